/** Promises 13 to 24: the trace, its events, and kept traces. */
public final class TracePromisesTest {
    /** Events 0 (40 to 54), 1 (60 to 74), the ghost 2 (80 to 88), and 3, 4 at the end of the fiber. */
    private static final String GHOSTLY = "connector 40 0 14000;connector 60 0 14000;";

    public static void main(String[] args) {
        promise13Base();
        promise13Peak();
        promise13Noise();
        promise13WrongInputs();
        promise14Echo();
        promise14EchoOrder();
        promise15PulsesFor();
        promise16Events();
        promise17Event();
        promise17Begins();
        promise17Ends();
        promise17Ghosts();
        promise17Makers();
        promise18Total();
        promise19EventAt();
        promise20Worst();
        promise21Findings();
        promise22WidthFor();
        promise23Keep();
        promise23KeepAndUndo();
        promise24Compare();
        promise24ComparePlaces();
        Checks.finish();
    }

    private static void promise13Base() {
        FiberTrace x = Checks.laid("splice 60 303;splice 62 -9;change 70 30;connector 80 50 5;");
        Checks.due("13: base(0)", x.sample(0, 1), 50000);
        Checks.due("13: base(59)", x.sample(59, 1), 49410);
        Checks.due("13: base(60)", x.sample(60, 1), 50000 - 600 - 60);
        Checks.due("13: base(61)", x.sample(61, 1), 50000 - 610 - 121);
        Checks.due("13: base(62)", x.sample(62, 1), 50000 - 620 - 181 + 1);
        Checks.due("13: base(64)", x.sample(64, 1), 50000 - 640 - 303 + 5);
        Checks.due("13: base(66)", x.sample(66, 1), 50000 - 660 - 303 + 9);
        Checks.due("13: base(70)", x.sample(70, 1), 50000 - 700 - 294);
        Checks.due("13: base(71)", x.sample(71, 1), 50000 - 730 - 294);
        Checks.due("13: base(80)", x.sample(80, 1), 50000 - 1000 - 294 - 10);
        Checks.due("13: base(199)", x.sample(199, 1), 50000 - 700 - 129 * 30 - 344);
        Checks.due("13: base(200)", x.sample(200, 1), 5000);
        Checks.due("13: base(259)", x.sample(259, 1), 5000);
        x.set(0, 1);
        Checks.due("13: base(60) of a narrow pulse", x.sample(60, 1), 50000 - 600 - 303);
        x.set(0, 20);
        Checks.due("13: base(78) of a wide pulse", x.sample(78, 1), 50000 - 700 - 240 - 287 + 7);
        Checks.due("13: base(79) of a wide pulse", x.sample(79, 1), 50000 - 700 - 270 - 303 + 8);
    }

    private static void promise13Peak() {
        FiberTrace x = Checks.laid("connector 100 0 6000;connector 103 0 9000;");
        int[] due = {0, 6000, 6000, 6000, 9000, 9000, 9000, 9000, 9000, 7500, 6000, 4500, 3000, 1500, 0, 0};
        for (int i = 0; i < due.length; i++) {
            Checks.due("13: peak(" + (99 + i) + ")", x.sample(99 + i, 2), due[i]);
        }
        Checks.due("13: sample", x.sample(100, 0), 55000);
        Checks.due("13: end peak", x.sample(200, 2), 12000);
        Checks.due("13: end sample", x.sample(200, 0), 17000);
        Checks.due("13: ahead of the end", x.sample(199, 2), 0);
        Checks.due("13: last sample", x.sample(259, 0), 5000);
        x.set(1, 100);
        Checks.due("13: slow recovery", x.sample(259, 2), 12000 - 5500);
        FiberTrace y = Checks.laid(GHOSTLY);
        Checks.due("13: ghost peak", y.sample(84, 2), 5000);
        Checks.due("13: ghost recovery", y.sample(87, 2), 500);
        Checks.due("13: behind the ghost", y.sample(88, 2), 0);
        Checks.due("13: no ghost of the ghost", y.sample(100, 2), 0);
        Checks.due("13: no end reflection", Checks.laid("end 0;").sample(200, 2), 0);
        Checks.due("13: the least end reflection", Checks.laid("end 1;").sample(204, 2), 1);
        FiberTrace z = Checks.laid("length 400;end 20000;");
        z.set(1, 100);
        Checks.due("13: the last place of the longest", z.sample(459, 0), 5000 + 20000 - 5500);
        Checks.due("13: the last base of the longest", z.sample(399, 1), 50000 - 3990);
        Checks.due("13: behind the longest", z.sample(460, 0), Checks.INVALID);
    }

    private static void promise13Noise() {
        FiberTrace x = new FiberTrace();
        Checks.due("13: no noise", x.sample(7, 3), 0);
        x.set(3, 100);
        x.set(4, 1);
        Checks.due("13: first draw", x.sample(0, 3), 49);
        Checks.due("13: second draw", x.sample(1, 3), 94);
        Checks.due("13: sample", x.sample(1, 0), 49990 + 94);
        x.set(4, 2);
        Checks.due("13: two draws", x.sample(0, 3), 71);
        x.set(4, 1);
        x.set(5, 0);
        Checks.due("13: of seed 0", x.sample(0, 3), 74 - 100);
        x.set(5, 65535);
        Checks.due("13: of seed 65535", x.sample(0, 3), (65535 * 75 + 74) % 65537 % 201 - 100);
        x.set(3, 1);
        x.set(5, 1);
        Checks.due("13: least noise", x.sample(0, 3), 149 % 3 - 1);
        x.set(3, 100);
        x.set(4, 4);
        int z = 1;
        for (int place = 0; place < 260; place++) {
            int sum = 0;
            for (int draw = 0; draw < 4; draw++) {
                z = (z * 75 + 74) % 65537;
                sum += z % 201 - 100;
            }
            Checks.due("13: noise(" + place + ")", x.sample(place, 3), sum / 4);
        }
        x.set(3, 0);
        Checks.due("13: no noise again", x.sample(1, 3), 0);
    }

    private static void promise13WrongInputs() {
        FiberTrace x = new FiberTrace();
        Checks.due("13: sample(-1, 0)", x.sample(-1, 0), Checks.INVALID);
        Checks.due("13: sample(260, 0)", x.sample(260, 0), Checks.INVALID);
        Checks.due("13: sample(0, -1)", x.sample(0, -1), Checks.INVALID);
        Checks.due("13: sample(0, 4)", x.sample(0, 4), Checks.INVALID);
        Checks.due("13: sample(MIN, 0)", x.sample(Integer.MIN_VALUE, 0), Checks.INVALID);
    }

    private static void echoIs(FiberTrace x, int index, int... due) {
        for (int what = 0; what < 4; what++) {
            Checks.due("14: echo(" + index + ", " + what + ")", x.echo(index, what), due[what]);
        }
    }

    private static void promise14Echo() {
        FiberTrace x = Checks.laid(GHOSTLY);
        echoIs(x, 0, 80, 5000, 40, 60);
        echoIs(x, 1, 340, 4000, 60, 200);
        echoIs(x, 2, 360, 4000, 40, 200);
        Checks.due("14: echo(3, 0)", x.echo(3, 0), Checks.NOT_FOUND);
        Checks.due("14: echo(MAX, 0)", x.echo(Integer.MAX_VALUE, 0), Checks.NOT_FOUND);
        Checks.due("14: echo(-1, 0)", x.echo(-1, 0), Checks.INVALID);
        Checks.due("14: echo(0, -1)", x.echo(0, -1), Checks.INVALID);
        Checks.due("14: echo(0, 4)", x.echo(0, 4), Checks.INVALID);
        Checks.due("14: echo(3, 4)", x.echo(3, 4), Checks.INVALID);
        x.set(2, 13000);
        echoIs(x, 0, 80, 1000, 40, 60);
        Checks.due("14: a height of 0 is none", x.echo(1, 0), Checks.NOT_FOUND);
        FiberTrace y = Checks.laid("end 0;connector 40 0 4;connector 60 0 7;");
        y.set(2, 4);
        echoIs(y, 0, 80, 1, 40, 60);
        y.set(2, 5);
        Checks.due("14: none", y.echo(0, 0), Checks.NOT_FOUND);
    }

    private static void promise14EchoOrder() {
        FiberTrace x = Checks.laid("end 0;connector 10 0 100;connector 20 0 200;connector 30 0 300;connector 40 0 400;");
        x.set(2, 0);
        echoIs(x, 0, 30, 150, 10, 20);
        echoIs(x, 1, 40, 250, 20, 30);
        echoIs(x, 2, 50, 200, 10, 30);
        echoIs(x, 3, 50, 350, 30, 40);
        echoIs(x, 4, 60, 300, 20, 40);
        echoIs(x, 5, 70, 250, 10, 40);
        Checks.due("14: echo(6, 0)", x.echo(6, 0), Checks.NOT_FOUND);
        FiberTrace y = new FiberTrace();
        y.set(2, 0);
        for (int place = 10; place <= 100; place += 10) {
            y.addPart(1, place, 0, place);
        }
        echoIs(y, 0, 30, 15, 10, 20);
        echoIs(y, 53, 380, 12020 / 2, 20, 200);
        echoIs(y, 54, 390, 12010 / 2, 10, 200);
        Checks.due("14: of 11 reflections", y.echo(55, 0), Checks.NOT_FOUND);
    }

    private static void promise15PulsesFor() {
        FiberTrace x = Checks.laid("length 80;");
        Checks.due("15: no noise", x.pulsesFor(0), 1);
        x.set(3, 100);
        Checks.due("15: 40", x.pulsesFor(40), 18);
        Checks.due("15: 100", x.pulsesFor(100), 1);
        Checks.due("15: 400", x.pulsesFor(400), 1);
        Checks.due("15: 0", x.pulsesFor(0), Checks.NOT_FOUND);
        Checks.due("15: -1", x.pulsesFor(-1), Checks.INVALID);
        Checks.due("15: 401", x.pulsesFor(401), Checks.INVALID);
        Checks.due("15: the pulses stay", x.count(4), 4);
        Checks.due("15: no change", x.count(17), 2);
        Checks.due("15: the greatest", quiet(30, 1), 32);
        Checks.due("15: the greatest of another seed", quiet(26, 2), 32);
        x.set(4, 18);
        int greatest = 0;
        for (int place = 0; place < 140; place++) {
            greatest = Math.max(greatest, Math.abs(x.sample(place, 3)));
        }
        Checks.due("15: the limit holds", greatest <= 40 ? 1 : 0, 1);
    }

    private static int quiet(int limit, int seed) {
        FiberTrace x = new FiberTrace();
        x.set(3, 100);
        x.set(5, seed);
        return x.pulsesFor(limit);
    }

    private static void promise16Events() {
        FiberTrace x = new FiberTrace();
        Checks.due("16: the end alone", x.events(), 2);
        Checks.due("16: with a ghost", Checks.laid(GHOSTLY).events(), 5);
        x.set(8, 40000);
        Checks.due("16: a high floor", x.events(), 1);
        x.set(7, 5);
        Checks.due("16: a step in every unit is one event", x.events(), 1);
        Checks.due("16: to the first flat unit", x.event(0, 1), 200);
        FiberTrace y = new FiberTrace();
        y.set(3, 400);
        y.set(4, 1);
        y.set(7, 300);
        Checks.due("16: at most 30", y.events(), 30);
        Checks.due("16: an event(30, 0)", y.event(30, 0), Checks.INVALID);
        Checks.due("16: the 30th is not the end", y.event(29, 4) == 3 ? 1 : 0, 0);
        Checks.due("16: without an event", Checks.dark().events(), 0);
    }

    private static void eventIs(FiberTrace x, int event, int... due) {
        for (int what = 0; what < 8; what++) {
            Checks.due("17: event(" + event + ", " + what + ")", x.event(event, what), due[what]);
        }
    }

    private static void promise17Event() {
        int none = Checks.NOT_FOUND;
        FiberTrace x = Checks.laid(GHOSTLY);
        eventIs(x, 0, 40, 54, 150, 13990, 1, 390, none, none);
        eventIs(x, 1, 60, 74, 150, 13990, 1, 50, none, none);
        eventIs(x, 2, 80, 88, 90, 4990, 2, 50, 0, 1);
        eventIs(x, 3, 200, 200, 48010 - 17000, 0, 0, 49120 - 48010, none, none);
        eventIs(x, 4, 205, 212, 12000, 0, 3, 0, none, none);
        Checks.due("17: event(-1, 0)", x.event(-1, 0), Checks.INVALID);
        Checks.due("17: event(5, 0)", x.event(5, 0), Checks.INVALID);
        Checks.due("17: event(0, -1)", x.event(0, -1), Checks.INVALID);
        Checks.due("17: event(0, 8)", x.event(0, 8), Checks.INVALID);
        Checks.due("17: event(5, 6)", x.event(5, 6), Checks.INVALID);
    }

    /** The first place of a splice of 50 * loss falls by its loss + 10, that of a connector rises. */
    private static void promise17Begins() {
        FiberTrace x = Checks.laid("splice 50 250;connector 100 0 610;");
        Checks.due("17: a fall of S is none", x.event(0, 0), 100);
        Checks.due("17: a rise of R is one", x.event(0, 4), 1);
        x.set(7, 59);
        Checks.due("17: a fall of S + 1", x.event(0, 0), 50);
        Checks.due("17: is plain", x.event(0, 4), 0);
        Checks.due("17: has no height", x.event(0, 3), 0);
        Checks.due("17: ends behind the spread", x.event(0, 1), 54);
        Checks.due("17: its loss", x.event(0, 2), 300);
        x.set(6, 601);
        Checks.due("17: a rise of R - 1 is none", x.event(1, 0), 105);
    }

    private static void promise17Ends() {
        FiberTrace x = Checks.laid("end 20000;connector 100 0 2000;");
        Checks.due("17: flat within the width", x.event(0, 1), 106);
        x.set(0, 1);
        Checks.due("17: narrow", x.event(0, 1), 102);
        x.set(0, 12);
        x.set(7, 2000);
        Checks.due("17: not before the width", x.event(0, 0), 100);
        Checks.due("17: at the width", x.event(0, 1), 111);
        FiberTrace y = Checks.laid("end 20000;");
        y.set(1, 130);
        y.set(7, 100);
        y.set(8, 0);
        Checks.due("17: at the last sample", y.event(1, 1), 259);
        Checks.due("17: not below the floor", y.event(1, 4), 0);
        Checks.due("17: events", y.events(), 2);
        int last = y.sample(259, 0);
        y.set(8, last);
        Checks.due("17: E is no end", y.event(1, 4), 0);
        y.set(8, last + 1);
        Checks.due("17: less than E is the end", y.event(1, 4), 3);
        FiberTrace v = Checks.laid("connector 100 0 2000;connector 104 0 7000;");
        eventIs(v, 0, 100, 104, 49010 - 55960, 55960 - 49010, 1, 990, Checks.NOT_FOUND, Checks.NOT_FOUND);
        FiberTrace z = Checks.laid("attenuation 50;connector 100 5000 2000;");
        z.set(8, 40000);
        eventIs(z, 0, 100, 106, 45050 - 39700, 950, 3, 4950, Checks.NOT_FOUND, Checks.NOT_FOUND);
        Checks.due("17: nothing behind it", z.events(), 1);
    }

    private static void promise17Ghosts() {
        FiberTrace x = Checks.laid(GHOSTLY);
        x.set(10, 89);
        Checks.due("17: more than Q is no ghost", x.event(2, 4), 1);
        Checks.due("17: without makers", x.event(2, 6), Checks.NOT_FOUND);
        x.set(10, 90);
        Checks.due("17: Q is a ghost", x.event(2, 4), 2);
        x.addPart(0, 85, -500, 0);
        Checks.due("17: a gain", x.event(2, 2), -400);
        Checks.due("17: more than Q is no ghost either", x.event(2, 4), 1);
        x.set(10, 400);
        Checks.due("17: a gain of Q is a ghost", x.event(2, 4), 2);
        FiberTrace y = Checks.laid("connector 40 0 8000;connector 60 0 8000;connector 83 0 8000;connector 107 0 8000;");
        Checks.due("17: T from the place", y.event(2, 4), 2);
        Checks.due("17: T from no place", y.event(3, 4), 1);
        y.set(9, 2);
        Checks.due("17: more than T from the place", y.event(2, 4), 1);
        Checks.due("17: 2 * 83 - 60 is 106", y.event(3, 4), 2);
        Checks.due("17: first maker", y.event(3, 6), 1);
        Checks.due("17: second maker", y.event(3, 7), 2);
    }

    /** Connectors at 20, 40, 80, 100, 120: 2 * 80 - 40 and 2 * 100 - 80 are 120; 2 * 40 - 20 is no event. */
    private static void promise17Makers() {
        FiberTrace x = Checks.laid("end 0;connector 20 0 3000;connector 40 0 3000;connector 80 0 3000;connector 100 0 3000;");
        x.addPart(1, 120, 0, 3000);
        Checks.due("17: the last one", x.event(4, 0), 120);
        Checks.due("17: its kind", x.event(4, 4), 2);
        Checks.due("17: the least i", x.event(4, 6), 1);
        Checks.due("17: its j", x.event(4, 7), 2);
        x.addPart(1, 60, 0, 3000);
        Checks.due("17: a ghost", x.event(2, 4), 2);
        Checks.due("17: no ghost makes one", x.event(5, 6), 1);
        Checks.due("17: no ghost makes one", x.event(5, 7), 3);
        FiberTrace y = Checks.laid("end 0;connector 10 0 3000;connector 60 0 3000;connector 70 0 3000;connector 120 0 3000;");
        Checks.due("17: 110 and 130 are not 120", y.event(3, 4), 1);
        y.set(9, 10);
        Checks.due("17: but within T of it", y.event(3, 4), 2);
        Checks.due("17: the only i", y.event(3, 6), 0);
        Checks.due("17: the least j", y.event(3, 7), 1);
    }

    private static void promise18Total() {
        FiberTrace x = Checks.laid(GHOSTLY);
        Checks.due("18: events", x.total(0), 150 + 150 + 90 + 31010 + 12000);
        Checks.due("18: sections", x.total(1), 390 + 50 + 50 + 1110);
        Checks.due("18: ghosts", x.total(2), 90);
        Checks.due("18: plain", x.total(3), 1);
        Checks.due("18: reflective", x.total(4), 2);
        Checks.due("18: ghosts", x.total(5), 1);
        Checks.due("18: they add up", x.total(6), 45000);
        Checks.due("18: the end", x.total(7), 1);
        Checks.due("18: total(-1)", x.total(-1), Checks.INVALID);
        Checks.due("18: total(8)", x.total(8), Checks.INVALID);
        x.set(8, 0);
        Checks.due("18: no end", x.total(7), 0);
        Checks.due("18: one plain more", x.total(3), 2);
        x.set(8, 40000);
        x.removePart(0);
        x.removePart(0);
        Checks.due("18: one event", x.events(), 1);
        Checks.due("18: falls to its end", x.total(6), 50000 - 17000);
        for (int what = 0; what < 8; what++) {
            Checks.due("18: total(" + what + ") without events", Checks.dark().total(what), 0);
        }
    }

    private static void promise19EventAt() {
        FiberTrace x = Checks.laid(GHOSTLY);
        Checks.due("19: ahead", x.eventAt(39), Checks.NOT_FOUND);
        Checks.due("19: begin", x.eventAt(40), 0);
        Checks.due("19: end", x.eventAt(54), 0);
        Checks.due("19: behind", x.eventAt(55), Checks.NOT_FOUND);
        Checks.due("19: the ghost", x.eventAt(88), 2);
        Checks.due("19: the end", x.eventAt(212), 4);
        Checks.due("19: 0", x.eventAt(0), Checks.NOT_FOUND);
        Checks.due("19: 259", x.eventAt(259), Checks.NOT_FOUND);
        Checks.due("19: 260", x.eventAt(260), Checks.INVALID);
        Checks.due("19: -1", x.eventAt(-1), Checks.INVALID);
    }

    private static void promise20Worst() {
        Checks.due("20: the fall ahead of the end", Checks.laid(GHOSTLY).worst(), 3);
        FiberTrace x = new FiberTrace();
        x.set(8, 40000);
        Checks.due("20: the end alone", x.worst(), Checks.NOT_FOUND);
        Checks.due("20: no event", Checks.dark().worst(), Checks.NOT_FOUND);
        x.addPart(0, 50, 400, 0);
        Checks.due("20: not the end", x.worst(), 0);
        x.addPart(0, 100, 400, 0);
        Checks.due("20: of several the first", x.worst(), 0);
        x.addPart(0, 150, 401, 0);
        Checks.due("20: the greatest", x.worst(), 2);
    }

    private static void findingsAre(FiberTrace x, int... due) {
        for (int what = 0; what < 4; what++) {
            Checks.due("21: findings(" + what + ")", x.findings(what), due[what]);
        }
    }

    private static void promise21Findings() {
        FiberTrace x = new FiberTrace();
        findingsAre(x, 0, 0, 0, 1);
        FiberTrace y = Checks.laid("connector 40 0 14000;splice 43 1;splice 44 1;splice 54 1;splice 55 1;change 90 30;");
        findingsAre(y, 2, 2, 1, 1);
        findingsAre(Checks.laid(GHOSTLY), 2, 0, 0, 1);
        FiberTrace z = Checks.laid(GHOSTLY + "splice 197 0;");
        findingsAre(z, 3, 0, 0, 0);
        z.set(9, 2);
        findingsAre(z, 2, 0, 1, 1);
        FiberTrace w = Checks.laid("splice 80 300;change 60 30;");
        w.removePart(1);
        findingsAre(w, 0, 0, 0, 1);
        Checks.due("21: findings(-1)", x.findings(-1), Checks.INVALID);
        Checks.due("21: findings(4)", x.findings(4), Checks.INVALID);
    }

    private static void promise22WidthFor() {
        FiberTrace x = Checks.laid("change 50 30;");
        Checks.due("22: nothing to find", x.widthFor(), 1);
        FiberTrace y = Checks.laid("connector 13 0 5000;connector 17 0 5000;");
        Checks.due("22: found with the width 5", y.findings(0), 1);
        Checks.due("22: the least", y.widthFor(), 2);
        Checks.due("22: the events stay", y.findings(0), 1);
        Checks.due("22: the width stays", y.count(0), 5);
        Checks.due("22: no change", y.count(17), 1);
        Checks.due("22: the trace stays", y.sample(17, 2), 5000);
        Checks.due("22: and its width", y.sample(21, 2), 5000);
        y.set(0, 2);
        Checks.due("22: it finds them", y.findings(0), 2);
        y.set(0, 1);
        Checks.due("22: less does not", y.findings(0), 1);
        y.addPart(0, 100, 0, 0);
        Checks.due("22: none", y.widthFor(), Checks.NOT_FOUND);
        FiberTrace z = Checks.laid("splice 30 -100;splice 19 800;");
        Checks.due("22: a wide one", z.widthFor(), 14);
        FiberTrace w = Checks.laid("splice 20 1000;splice 25 -10;");
        w.set(7, 59);
        Checks.due("22: the greatest", w.widthFor(), 20);
    }

    private static void promise23Keep() {
        FiberTrace x = new FiberTrace();
        Checks.due("23: one", x.keep(), 1);
        Checks.due("23: a change", x.count(17), 1);
        x.addPart(0, 100, 100, 0);
        Checks.due("23: two", x.keep(), 2);
        x.addPart(0, 110, 100, 0);
        Checks.due("23: three", x.keep(), 3);
        for (int kept = 0; kept < 3; kept++) {
            Checks.due("23: compare(" + kept + ", 0, 2)", x.compare(kept, 0, 2), 200 - 100 * kept);
        }
        x.addPart(0, 120, 100, 0);
        Checks.due("23: the oldest is dropped", x.keep(), 3);
        Checks.due("23: count", x.count(16), 3);
        for (int kept = 0; kept < 3; kept++) {
            Checks.due("23: then compare(" + kept + ", 0, 2)", x.compare(kept, 0, 2), 200 - 100 * kept);
        }
    }

    /** Each keep drops one of three; undo brings them back, whatever is kept after another undo. */
    private static void promise23KeepAndUndo() {
        FiberTrace x = new FiberTrace();
        x.addPart(0, 10, 100, 0);
        x.keep();
        x.addPart(0, 20, 100, 0);
        x.keep();
        x.addPart(0, 30, 100, 0);
        x.keep();
        x.addPart(0, 40, 100, 0);
        for (int i = 0; i < 5; i++) {
            x.keep();
        }
        for (int i = 0; i < 5; i++) {
            x.undo();
        }
        for (int kept = 0; kept < 3; kept++) {
            Checks.due("23: restored " + kept, x.compare(kept, 0, 2), 300 - 100 * kept);
        }
        x.addPart(0, 50, 100, 0);
        x.keep();
        x.undo();
        x.addPart(0, 60, 100, 0);
        x.keep();
        Checks.due("23: kept in another way", x.compare(2, 0, 2), 0);
        Checks.due("23: and the one before", x.compare(1, 0, 2), 300);
    }

    private static void compareIs(FiberTrace x, int kept, int limit, int... due) {
        for (int what = 0; what < 4; what++) {
            Checks.due("24: compare(" + kept + ", " + limit + ", " + what + ")", x.compare(kept, limit, what), due[what]);
        }
    }

    private static void promise24Compare() {
        FiberTrace x = new FiberTrace();
        Checks.due("24: none kept", x.compare(0, 0, 0), Checks.INVALID);
        x.keep();
        compareIs(x, 0, 0, Checks.NOT_FOUND, 0, 0, 0);
        x.set(3, 100);
        Checks.due("24: the first place", x.compare(0, x.sample(0, 3) - 1, 0), 0);
        x.undo();
        x.addPart(0, 100, 300, 0);
        compareIs(x, 0, 0, 100, 100, 300, 104);
        compareIs(x, 0, 60, 101, 99, 300, 104);
        compareIs(x, 0, 299, 104, 96, 300, 104);
        compareIs(x, 0, 300, Checks.NOT_FOUND, 0, 300, 104);
        compareIs(x, 0, 50000, Checks.NOT_FOUND, 0, 300, 104);
        Checks.due("24: compare(-1, 0, 0)", x.compare(-1, 0, 0), Checks.INVALID);
        Checks.due("24: compare(1, 0, 0)", x.compare(1, 0, 0), Checks.INVALID);
        Checks.due("24: compare(0, -1, 0)", x.compare(0, -1, 0), Checks.INVALID);
        Checks.due("24: compare(0, 50001, 0)", x.compare(0, 50001, 0), Checks.INVALID);
        Checks.due("24: compare(0, 0, -1)", x.compare(0, 0, -1), Checks.INVALID);
        Checks.due("24: compare(0, 0, 4)", x.compare(0, 0, 4), Checks.INVALID);
    }

    /** Only the places up to 109 stand in both traces. */
    private static void promise24ComparePlaces() {
        FiberTrace x = Checks.laid("length 50;end 0;attenuation 0;");
        x.keep();
        x.clearText();
        Checks.write(x, "end 0;attenuation 0;");
        x.lay();
        compareIs(x, 0, 0, 50, 60, 45000, 50);
        x.keep();
        x.undo();
        x.undo();
        x.undo();
        x.clearText();
        Checks.write(x, "length 400;end 0;attenuation 0;splice 40 -500;");
        x.lay();
        x.keep();
        x.clearText();
        Checks.write(x, "length 50;end 0;attenuation 0;");
        x.lay();
        compareIs(x, 0, 499, 44, 66, 45500, 50);
    }
}
