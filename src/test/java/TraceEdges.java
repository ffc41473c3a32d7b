/** The edges that the document names of the trace: its section, and promises 13 to 15. */
final class TraceEdges {
    private TraceEdges() {
    }

    static void check() {
        samplePlaces();
        basePlaces();
        baseOfParts();
        baseOfWholeLosses();
        baseBehindTheFiber();
        peakPlaces();
        peakRecovery();
        connectorsReflect();
        endReflects();
        ghostPlaces();
        ghostsOfAnyTwo();
        ghostHeights();
        greatestPeak();
        sampleIsTheSum();
        noiseBegins();
        noiseDraws();
        noiseRange();
        noiseOrder();
        noiseOfOtherSettings();
        noiseSum();
        noNoise();
        sampleProperties();
        echoOrder();
        echoBeyond();
        echoIndex();
        echoProperties();
        echoEnds();
        pulsesLimit();
        pulsesRange();
        pulsesOfNoGreaterNoise();
        pulsesOfAllPlaces();
        pulsesAlone();
        pulsesOfNone();
    }

    private static void samplePlaces() {
        Checks.sentence("Trace", "The trace has samples at the places 0 to length + 59.");
        Checks.sentence("13", "`place`: 0 to length + 59");
        for (int length : new int[] {50, 200, 400}) {
            FiberTrace x = Checks.laid("length " + length + ";end 0;");
            Checks.onlyWithin("sample", p -> x.sample(p, 0), 0, length + 59);
            Checks.due("samples", x.count(15), length + 60);
            Checks.row("sample", p -> x.sample(p, 0), length + 57, 5000, 5000, 5000, Checks.INVALID);
        }
    }

    private static void basePlaces() {
        Checks.sentence("Trace", "The base at a place x, from 0 to length - 1, is 50000 minus the sum of"
                + " the attenuations of the units from 0 to x - 1");
        FiberTrace x = Checks.laid("length 50;attenuation 7;change 1 20;change 49 50;");
        Checks.row("base", p -> x.sample(p, 1), 0, 50000, 49993, 49973);
        Checks.row("base", p -> x.sample(p, 1), 48, 49993 - 940, 49993 - 960, 5000);
    }

    private static void baseOfParts() {
        Checks.sentence("Trace", "for each splice or connector at a place p that is at most x,"
                + " its loss * (x - p + 1) / W");
        FiberTrace x = Checks.laid("attenuation 0;splice 60 1000;connector 62 500 5;change 64 0;");
        Checks.row("base", p -> x.sample(p, 1), 59, 50000, 49800, 49600, 49300, 49000, 48700, 48600, 48500, 48500);
        FiberTrace first = Checks.laid("attenuation 0;splice 1 5;splice 199 10;");
        Checks.row("base", p -> first.sample(p, 1), 0, 50000, 49999, 49998);
        Checks.row("base", p -> first.sample(p, 1), 198, 49995, 49993, 5000);
    }

    private static void baseOfWholeLosses() {
        Checks.sentence("Trace", "but its loss if x - p + 1 is at least W");
        FiberTrace x = Checks.laid("attenuation 0;splice 60 -399;");
        Checks.row("base", p -> x.sample(p, 1), 63, 50319, 50399, 50399, 50399);
        x.set(0, 1);
        Checks.row("base", p -> x.sample(p, 1), 59, 50000, 50399, 50399);
        x.set(0, 2);
        Checks.row("base", p -> x.sample(p, 1), 59, 50000, 50199, 50399, 50399);
        x.set(0, 20);
        Checks.row("base", p -> x.sample(p, 1), 77, 50359, 50379, 50399, 50399);
    }

    private static void baseBehindTheFiber() {
        Checks.sentence("Trace", "From length on the base is 5000.");
        for (int length : new int[] {50, 200, 400}) {
            FiberTrace x = Checks.laid("length " + length + ";attenuation 0;splice " + (length - 1) + " 500;");
            Checks.row("base", p -> x.sample(p, 1), length - 2, 50000, 49900, 5000, 5000);
            Checks.due("last base", x.sample(length + 59, 1), 5000);
        }
    }

    private static void peakPlaces() {
        Checks.sentence("Trace", "at the places x from p on, a peak of h, if x is less than p + W");
        FiberTrace x = Checks.laid("connector 60 0 1500;");
        Checks.row("peak", p -> x.sample(p, 2), 59, 0, 1500, 1500, 1500, 1500, 1500, 0);
        x.set(0, 1);
        Checks.row("peak", p -> x.sample(p, 2), 59, 0, 1500, 0);
        x.set(0, 20);
        Checks.row("peak", p -> x.sample(p, 2), 78, 1500, 1500, 0);
    }

    private static void peakRecovery() {
        Checks.sentence("Trace", "otherwise of h - D * (x - p - W + 1), if this is above 0");
        FiberTrace x = Checks.laid("end 0;connector 60 0 4500;connector 80 0 4501;connector 100 0 4499;");
        Checks.row("peak of 3 * D", p -> x.sample(p, 2), 64, 4500, 3000, 1500, 0, 0);
        Checks.row("peak of 3 * D + 1", p -> x.sample(p, 2), 84, 4501, 3001, 1501, 1, 0);
        Checks.row("peak of 3 * D - 1", p -> x.sample(p, 2), 104, 4499, 2999, 1499, 0, 0);
        x.set(1, 5000);
        Checks.row("peak of less than D", p -> x.sample(p, 2), 84, 4501, 0, 0);
        x.set(1, 100);
        Checks.row("peak of a slow recovery", p -> x.sample(p, 2), 104, 4499, 4399, 4299);
    }

    private static void connectorsReflect() {
        Checks.sentence("Trace", "Connectors have their reflections at their places");
        FiberTrace x = Checks.laid("end 0;splice 20 5;change 30 5;connector 40 0 12000;connector 60 0 12000;");
        Checks.row("peak", p -> x.sample(p, 2), 39, 0, 12000);
        Checks.row("peak", p -> x.sample(p, 2), 59, 0, 12000);
        Checks.row("peak of a ghost", p -> x.sample(p, 2), 79, 0, 3000);
        Checks.due("peak of a splice", x.sample(20, 2), 0);
        Checks.due("peak of a change", x.sample(30, 2), 0);
        x.removePart(3);
        Checks.due("peak of a connector that is gone", x.sample(60, 2), 0);
        Checks.due("peak of its ghost", x.sample(80, 2), 0);
        Checks.due("its ghost", x.echo(0, 0), Checks.NOT_FOUND);
        x.removePart(2);
        Checks.due("peak of the other one", x.sample(40, 2), 0);
    }

    /** An end of 0 is no reflection of the height 0: with one, the connector would have a ghost of 1000. */
    private static void endReflects() {
        Checks.sentence("Trace", "the end has its own at length (if it is above 0)");
        FiberTrace none = Checks.laid("end 0;connector 60 0 20000;");
        Checks.row("peak without", p -> none.sample(p, 2), 199, 0, 0, 0);
        Checks.due("a ghost of none", none.echo(0, 0), Checks.NOT_FOUND);
        FiberTrace least = Checks.laid("end 1;connector 60 0 19999;");
        Checks.row("peak of 1", p -> least.sample(p, 2), 199, 0, 1, 1, 1, 1, 1, 0);
        Checks.due("a ghost of 1", least.echo(0, 1), 1000);
        FiberTrace greatest = Checks.laid("length 400;end 20000;");
        Checks.row("peak of 20000", p -> greatest.sample(p, 2), 399, 0, 20000);
    }

    private static void ghostPlaces() {
        Checks.sentence("Trace", "For any two of these reflections, at p and q, p less than q, there is a ghost at 2 * q - p");
        FiberTrace x = Checks.laid("end 0;connector 40 0 10000;connector 60 0 10000;");
        Checks.row("peak", p -> x.sample(p, 2), 79, 0, 1000, 1000, 1000, 1000, 1000, 0);
        Checks.due("no ghost at 2 * p - q", x.sample(20, 2), 0);
        Checks.due("no ghost of the ghost", x.sample(100, 2), 0);
        Checks.due("one ghost", x.echo(1, 0), Checks.NOT_FOUND);
        FiberTrace near = Checks.laid("end 0;connector 198 0 10000;connector 199 0 10000;");
        Checks.due("of neighbours", near.echo(0, 0), 200);
        FiberTrace far = Checks.laid("length 400;connector 1 0 12000;");
        Checks.due("the farthest ghost", far.echo(0, 0), 799);
    }

    private static int ghosts(FiberTrace x) {
        int index = 0;
        while (x.echo(index, 0) >= 0) {
            index++;
        }
        return index;
    }

    private static void ghostsOfAnyTwo() {
        Checks.sentence("Trace", "For any two of these reflections");
        int[] due = {0, 1, 3, 6, 10, 15, 21, 28, 36, 45, 55};
        FiberTrace x = new FiberTrace();
        x.set(2, 0);
        for (int connectors = 0; connectors <= 10; connectors++) {
            Checks.due("ghosts of the end and " + connectors, ghosts(x), due[connectors]);
            x.addPart(1, 3 + connectors * connectors, 0, 1);
        }
        FiberTrace alone = Checks.laid("end 0;connector 60 0 20000;splice 80 5;");
        alone.set(2, 0);
        Checks.due("ghosts of one", ghosts(alone), 0);
        Checks.due("ghosts of none", ghosts(Checks.laid("end 0;")), 0);
    }

    private static void ghostHeights() {
        Checks.sentence("Trace", "with the height (their heights together) / 2 - G, if this is above 0");
        FiberTrace x = Checks.laid("end 0;connector 40 0 2000;connector 60 0 2003;");
        x.set(2, 2001);
        Checks.due("2001 - 2001", x.echo(0, 0), Checks.NOT_FOUND);
        Checks.due("its peak", x.sample(80, 2), 0);
        x.set(2, 2002);
        Checks.due("2001 - 2002", x.echo(0, 0), Checks.NOT_FOUND);
        Checks.due("its peak", x.sample(80, 2), 0);
        x.set(2, 2000);
        Checks.due("2001 - 2000", x.echo(0, 1), 1);
        Checks.due("its peak", x.sample(80, 2), 1);
        x.set(2, 0);
        Checks.due("without an echo loss", x.echo(0, 1), 2001);
    }

    private static void greatestPeak() {
        Checks.sentence("Trace", "The peak at a place is the greatest one of all reflections and ghosts there (0 without any).");
        FiberTrace x = Checks.laid("end 0;connector 60 0 2000;connector 62 0 1000;connector 70 0 1000;connector 72 0 3000;");
        Checks.row("peak", p -> x.sample(p, 2), 59, 0, 2000, 2000, 2000, 2000, 2000, 1000, 1000, 0);
        Checks.row("peak", p -> x.sample(p, 2), 69, 0, 1000, 1000, 3000);
        FiberTrace y = Checks.laid("end 0;connector 40 0 3000;connector 60 0 3000;connector 80 0 2999;");
        y.set(2, 0);
        Checks.due("a ghost above a reflection", y.sample(80, 2), 3000);
        y.set(2, 2);
        Checks.due("a reflection above a ghost", y.sample(80, 2), 2999);
        Checks.due("without any", new FiberTrace().sample(0, 2), 0);
    }

    private static void sampleIsTheSum() {
        Checks.sentence("Trace", "A sample without noise is the base plus the peak.");
        FiberTrace x = Checks.laid("length 50;attenuation 50;end 0;connector 49 5000 20000;");
        x.set(0, 1);
        Checks.row("sample", p -> x.sample(p, 0), 48, 47600, 62550, 5000 + 18500);
    }

    private static FiberTrace noisy(int height, int pulses, int seed) {
        FiberTrace x = new FiberTrace();
        x.set(3, height);
        x.set(4, pulses);
        x.set(5, seed);
        return x;
    }

    private static int firstNoise(int height, int seed) {
        return noisy(height, 1, seed).sample(0, 3);
    }

    /** 65535 * 75 + 74 is 4915199, which is 74 * 65537 + 65461. */
    private static void noiseBegins() {
        Checks.sentence("Trace", "a number z begins as the seed");
        Checks.due("seed 0", firstNoise(400, 0), 74 - 400);
        Checks.due("seed 1", firstNoise(400, 1), 149 - 400);
        Checks.due("seed 65535", firstNoise(400, 65535), 65461 % 801 - 400);
        FiberTrace x = noisy(400, 1, 1);
        Checks.due("ahead of another seed", x.sample(0, 3), 149 - 400);
        x.set(5, 0);
        Checks.due("of the other seed", x.sample(0, 3), 74 - 400);
        x.undo();
        Checks.due("of the seed before", x.sample(0, 3), 149 - 400);
    }

    /** 872 * 75 + 74 is 65474, and 873 * 75 + 74 is 65549, which is 65537 + 12. */
    private static void noiseDraws() {
        Checks.sentence("Trace", "for each draw z becomes (z * 75 + 74) modulo 65537");
        Checks.due("below the modulus", firstNoise(400, 872), 65474 % 801 - 400);
        Checks.due("beyond the modulus", firstNoise(400, 873), 12 - 400);
        FiberTrace x = noisy(400, 1, 873);
        Checks.row("noise", p -> x.sample(p, 3), 0, 12 - 400, 974 % 801 - 400, (73124 - 65537) % 801 - 400);
    }

    private static void noiseRange() {
        Checks.sentence("Trace", "the draw is z modulo (2 * A + 1), minus A");
        Checks.due("z is 2 * A", firstNoise(37, 0), 37);
        Checks.due("z is 2 * A + 1", firstNoise(74, 1), -74);
        Checks.due("z is 2 * A - 1", firstNoise(75, 1), 74);
        Checks.due("the least A", firstNoise(1, 0), 74 % 3 - 1);
        Checks.due("the least A", firstNoise(1, 1), 149 % 3 - 1);
        Checks.due("the greatest A", firstNoise(400, 0), 74 - 400);
    }

    /** The draws of seed 1 with A = 100 are 49, 94, -80, -45, 8 and -4. */
    private static void noiseOrder() {
        Checks.sentence("Trace", "For the places of the trace in ascending order, P draws are made one after the other");
        FiberTrace one = noisy(100, 1, 1);
        Checks.row("one draw", p -> one.sample(p, 3), 0, 49, 94, -80, -45, 8, -4);
        FiberTrace two = noisy(100, 2, 1);
        Checks.row("two draws", p -> two.sample(p, 3), 0, 71, -62, 2);
        FiberTrace three = noisy(100, 3, 1);
        Checks.row("three draws", p -> three.sample(p, 3), 0, 21, -13);
        long z = 1;
        int sum = 0;
        for (int draw = 0; draw < 260 * 32; draw++) {
            z = (z * 75 + 74) % 65537;
            sum = (draw % 32 == 0 ? 0 : sum) + (int) (z % 201) - 100;
        }
        Checks.due("the last of all places", noisy(100, 32, 1).sample(259, 3), sum / 32);
    }

    /** Two draws a place of seed 1 with A = 100 are 49 and 94, one of seed 0 is -26. */
    private static void noiseOfOtherSettings() {
        Checks.sentence("Trace", "P draws are made one after the other");
        FiberTrace x = noisy(100, 1, 1);
        Checks.due("one draw", x.sample(0, 3), 49);
        x.set(4, 2);
        Checks.due("two draws", x.sample(0, 3), 71);
        x.set(4, 1);
        x.set(3, 74);
        Checks.due("a lower A", x.sample(0, 3), -74);
        x.set(3, 100);
        x.set(5, 0);
        Checks.due("another seed", x.sample(0, 3), -26);
        FiberTrace longer = Checks.laid("length 50;");
        longer.set(3, 400);
        longer.set(4, 1);
        longer.set(5, 507);
        Checks.due("the last of a short trace", longer.sample(109, 3), noisy(400, 1, 507).sample(109, 3));
        longer.clearText();
        longer.lay();
        Checks.due("the next one of a longer trace", longer.sample(110, 3), -400);
    }

    /** The draws of seed 10 with A = 100 are -80 and 67, then 71 and 79, then -26 and -92. */
    private static void noiseSum() {
        Checks.sentence("Trace", "their sum / P is added to the sample");
        FiberTrace x = noisy(100, 2, 10);
        Checks.row("noise", p -> x.sample(p, 3), 0, -6, 75, -59);
        Checks.row("sample", p -> x.sample(p, 0), 0, 50000 - 6, 49990 + 75, 49980 - 59);
        Checks.row("base", p -> x.sample(p, 1), 0, 50000, 49990, 49980);
        Checks.row("peak", p -> x.sample(p, 2), 0, 0, 0, 0);
    }

    private static void noNoise() {
        Checks.sentence("Trace", "(With A = 0 nothing is drawn.)");
        FiberTrace x = noisy(0, 32, 65535);
        for (int p = 0; p < 260; p++) {
            Checks.due("noise of " + p, x.sample(p, 3), 0);
        }
        x.set(3, 400);
        Checks.due("with A = 400 something is", x.sample(0, 3) == 0 ? 1 : 0, 0);
        x.set(3, 0);
        Checks.due("and with A = 0 nothing again", x.sample(0, 3), 0);
    }

    private static void sampleProperties() {
        Checks.sentence("13", "`what`: 0: the sample; 1: the base; 2: the peak; 3: the noise");
        Checks.sentence("13", "INVALID_ARGUMENT if an argument is out of range.");
        FiberTrace x = noisy(37, 1, 0);
        x.addPart(1, 1, 0, 3);
        Checks.onlyWithin("what", what -> x.sample(0, what), 0, 3);
        Checks.row("property of 0", what -> x.sample(0, what), -1, Checks.INVALID, 50037, 50000, 0, 37, Checks.INVALID);
        Checks.due("peak of 1", x.sample(1, 2), 3);
        for (int what = -1; what <= 4; what++) {
            Checks.due("sample(-1, " + what + ")", x.sample(-1, what), Checks.INVALID);
            Checks.due("sample(260, " + what + ")", x.sample(260, what), Checks.INVALID);
        }
    }

    /** 2 * 42 - 40 is ahead of 2 * 42 - 10; 2 * 30 - 10 and 2 * 40 - 30 are both 50. */
    private static void echoOrder() {
        Checks.sentence("14", "by ascending places, those at the same place by ascending places of the first reflection");
        FiberTrace x = Checks.laid("end 0;connector 10 0 2;connector 40 0 4;connector 42 0 6;");
        x.set(2, 0);
        Checks.row("place", n -> x.echo(n, 0), 0, 44, 70, 74, Checks.NOT_FOUND);
        Checks.row("height", n -> x.echo(n, 1), 0, 5, 3, 4);
        Checks.row("first", n -> x.echo(n, 2), 0, 40, 10, 10);
        Checks.row("second", n -> x.echo(n, 3), 0, 42, 40, 42);
        FiberTrace y = Checks.laid("end 0;connector 10 0 2;connector 30 0 4;connector 40 0 8;");
        y.set(2, 0);
        Checks.row("place", n -> y.echo(n, 0), 0, 50, 50, 70, Checks.NOT_FOUND);
        Checks.row("first", n -> y.echo(n, 2), 0, 10, 30, 10);
        Checks.row("height", n -> y.echo(n, 1), 0, 3, 6, 5);
    }

    private static void echoBeyond() {
        Checks.sentence("14", "those that the trace has (also beyond its last sample)");
        FiberTrace x = Checks.laid("length 50;end 20000;connector 1 0 1;");
        Checks.due("the place", x.echo(0, 0), 99);
        FiberTrace last = Checks.laid("length 100;end 20000;connector 41 0 1;");
        Checks.due("at the last sample", last.echo(0, 0), 159);
        Checks.due("its peak", last.sample(159, 2), 1000);
        FiberTrace beyond = Checks.laid("length 100;end 20000;connector 40 0 1;");
        Checks.due("behind the last sample", beyond.echo(0, 0), 160);
        Checks.due("the last peak", beyond.sample(159, 2), 0);
    }

    private static void echoIndex() {
        Checks.sentence("14", "`index`: 0 for the first one, and so on");
        Checks.sentence("14", "INVALID_ARGUMENT if index is negative or what is out of range");
        FiberTrace x = Checks.laid("connector 40 0 12000;");
        Checks.row("place", n -> x.echo(n, 0), -2, Checks.INVALID, Checks.INVALID, 360, Checks.NOT_FOUND, Checks.NOT_FOUND);
        Checks.due("the least index", x.echo(Integer.MIN_VALUE, 0), Checks.INVALID);
        Checks.due("the greatest index", x.echo(Integer.MAX_VALUE, 0), Checks.NOT_FOUND);
        Checks.due("both are wrong", x.echo(-1, 4), Checks.INVALID);
    }

    private static void echoProperties() {
        Checks.sentence("14", "`what`: 0: its place; 1: its height; 2: the place of the first reflection; 3: that of the second one");
        FiberTrace x = Checks.laid("connector 40 0 12001;");
        Checks.onlyWithin("what", what -> x.echo(0, what), 0, 3);
        Checks.row("property", what -> x.echo(0, what), 0, 360, 3000, 40, 200, Checks.INVALID);
    }

    private static void echoEnds() {
        Checks.sentence("14", "NOT_FOUND if there are not so many.");
        FiberTrace none = new FiberTrace();
        for (int what = 0; what < 4; what++) {
            Checks.due("of none", none.echo(0, what), Checks.NOT_FOUND);
        }
        FiberTrace all = new FiberTrace();
        all.set(2, 0);
        for (int place = 1; place <= 10; place++) {
            all.addPart(1, place, 0, 1);
        }
        Checks.row("first of", n -> all.echo(n, 2), 53, 2, 1, Checks.NOT_FOUND);
    }

    private static void pulsesLimit() {
        Checks.sentence("15", "`limit`: 0 to 400");
        Checks.sentence("15", "INVALID_ARGUMENT if limit is out of range");
        Checks.onlyWithin("limit with noise", limit -> noisy(400, 1, 1).pulsesFor(limit), 0, 400);
        Checks.onlyWithin("limit without noise", limit -> new FiberTrace().pulsesFor(limit), 0, 400);
    }

    private static int greatestNoise(int height, int pulses, int seed) {
        FiberTrace x = noisy(height, pulses, seed);
        int greatest = 0;
        for (int p = 0; p < 260; p++) {
            greatest = Math.max(greatest, Math.abs(x.sample(p, 3)));
        }
        return greatest;
    }

    private static void pulsesRange() {
        Checks.sentence("15", "Finds the least number of pulses, 1 to 32");
        Checks.due("nothing is drawn", new FiberTrace().pulsesFor(0), 1);
        Checks.due("no draw is greater than A", noisy(400, 9, 1).pulsesFor(400), 1);
        Checks.due("the greatest", noisy(100, 1, 1).pulsesFor(30), 32);
        for (int pulses = 1; pulses < 32; pulses++) {
            Checks.due(pulses + " are too few", greatestNoise(100, pulses, 1) > 30 ? 1 : 0, 1);
        }
        Checks.due("32 are enough", greatestNoise(100, 32, 1), 30);
    }

    private static void pulsesOfNoGreaterNoise() {
        Checks.sentence("15", "with which no |noise| of the trace is greater than a limit");
        for (int seed = 1; seed <= 40; seed++) {
            int one = greatestNoise(400, 1, seed);
            Checks.due("a noise of the limit", noisy(400, 4, seed).pulsesFor(one), 1);
            Checks.due("a noise above the limit", noisy(400, 4, seed).pulsesFor(one - 1) > 1 ? 1 : 0, 1);
        }
    }

    /** A trace of 110 samples: the greatest noise is the first of seed 266, and the last of seed 9. */
    private static void pulsesOfAllPlaces() {
        Checks.sentence("15", "|noise| of the trace");
        Checks.due("the first sample is 400", shortNoisy(266).sample(0, 3), 400);
        Checks.due("and no other", shortNoisy(266).pulsesFor(399) > 1 ? 1 : 0, 1);
        Checks.due("the last sample is -400", shortNoisy(9).sample(109, 3), -400);
        Checks.due("and no other", shortNoisy(9).pulsesFor(399) > 1 ? 1 : 0, 1);
        Checks.due("a sample behind the last is none", shortNoisy(507).pulsesFor(396), 1);
        Checks.due("it would be -400", noisy(400, 1, 507).sample(110, 3), -400);
    }

    private static FiberTrace shortNoisy(int seed) {
        FiberTrace x = Checks.laid("length 50;");
        x.set(3, 400);
        x.set(4, 1);
        x.set(5, seed);
        return x;
    }

    private static void pulsesAlone() {
        Checks.sentence("15", "all else being as it is");
        FiberTrace x = noisy(100, 4, 1);
        int before = x.sample(7, 3);
        int pulses = x.pulsesFor(60);
        Checks.due("pulses", x.count(4), 4);
        Checks.due("noise", x.sample(7, 3), before);
        Checks.due("history", x.count(17), 3);
        x.set(4, 32);
        Checks.due("with other pulses", x.pulsesFor(60), pulses);
    }

    /** With seed 1 and A = 100, the greatest noise of 32 pulses is 30, and that of 33 would be 28. */
    private static void pulsesOfNone() {
        Checks.sentence("15", "NOT_FOUND if there is none.");
        Checks.due("33 would be enough", noisy(100, 1, 1).pulsesFor(29), Checks.NOT_FOUND);
        Checks.due("no noise at all", noisy(400, 1, 1).pulsesFor(0), Checks.NOT_FOUND);
        Checks.due("and a wrong limit", noisy(400, 1, 1).pulsesFor(-1), Checks.INVALID);
    }
}
