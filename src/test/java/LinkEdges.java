/** The edges that the document names of the link: its section, and promises 6, 7, 11 and 12. */
final class LinkEdges {
    private LinkEdges() {
    }

    static void check() {
        placesFromZero();
        lengthOfALink();
        attenuationOfALink();
        endReflection();
        quotientsOfLosses();
        quotientsOfHeights();
        quotientsOfNoise();
        tenParts();
        differentPlaces();
        firstAndLastPlace();
        ascendingPlaces();
        spliceLoss();
        connectorLossAndReflection();
        changeAttenuation();
        changeHolds();
        nextChange();
        lineLossPlaces();
        lineLossUnits();
        lineLossParts();
        lineLossOfWhatRemains();
        kinds();
        storedLosses();
        storedAttenuations();
        storedReflections();
        noReflections();
        numbersOfNewParts();
        wrongParts();
        removedParts();
        partsThatRemain();
        noSuchPart();
        partProperties();
        partReflection();
        wrongPartProperties();
    }

    private static void placesFromZero() {
        Checks.sentence("Link", "Places are whole numbers from 0 on.");
        FiberTrace x = new FiberTrace();
        Checks.row("base", p -> x.sample(p, 1), -1, Checks.INVALID, 50000, 49990);
        Checks.row("lineLoss", x::lineLoss, -1, Checks.INVALID, 0, 10);
        Checks.row("eventAt", x::eventAt, -1, Checks.INVALID, Checks.NOT_FOUND);
    }

    private static void rangeOfTheLink(String word, int what, int least, int greatest, int first) {
        Checks.due("first " + word, new FiberTrace().count(what), first);
        Checks.due("least " + word, Checks.laid(word + " " + least + ";").count(what), least);
        Checks.due("greatest " + word, Checks.laid(word + " " + greatest + ";").count(what), greatest);
        Checks.faultIs(word + " " + (least - 1) + ";", 0, 3, 1);
        Checks.faultIs(word + " " + (greatest + 1) + ";", 0, 3, 1);
        Checks.faultIs(word + " 99999;", 0, 3, 1);
        Checks.faultIs(word + " -99999;", 0, 3, 1);
    }

    private static void lengthOfALink() {
        Checks.sentence("Link", "A link has a length (50 to 400, initially 200)");
        rangeOfTheLink("length", 11, 50, 400, 200);
    }

    private static void attenuationOfALink() {
        Checks.sentence("Link", "an attenuation for each unit of length (0 to 50, initially 10)");
        rangeOfTheLink("attenuation", 12, 0, 50, 10);
    }

    private static void endReflection() {
        Checks.sentence("Link", "an end reflection (0 to 20000, initially 12000)");
        rangeOfTheLink("end", 13, 0, 20000, 12000);
    }

    /** 7 * 1 / 5 to 7 * 4 / 5 are 1.4, 2.8, 4.2 and 5.6, of a loss of 7 or of -7. */
    private static void quotientsOfLosses() {
        Checks.sentence("Link", "all quotients of whole numbers are rounded toward 0");
        FiberTrace loss = Checks.laid("attenuation 0;splice 60 7;");
        Checks.row("base", p -> loss.sample(p, 1), 60, 49999, 49998, 49996, 49995, 49993);
        FiberTrace gain = Checks.laid("attenuation 0;splice 60 -7;");
        Checks.row("base", p -> gain.sample(p, 1), 60, 50001, 50002, 50004, 50005, 50007);
    }

    private static void quotientsOfHeights() {
        Checks.sentence("Link", "rounded toward 0, if nothing else is said");
        FiberTrace x = Checks.laid("end 0;connector 40 0 3;connector 60 0 4;");
        x.set(2, 0);
        Checks.due("half of 7", x.echo(0, 1), 3);
    }

    /** The first two draws of seed 10 are -80 and 67, of seed 5 they are -53 and 82. */
    private static void quotientsOfNoise() {
        Checks.sentence("Link", "quotients of whole numbers are rounded toward 0");
        FiberTrace x = new FiberTrace();
        x.set(3, 100);
        x.set(4, 2);
        x.set(5, 10);
        Checks.due("half of -13", x.sample(0, 3), -6);
        x.set(5, 5);
        Checks.due("half of 29", x.sample(0, 3), 14);
    }

    private static FiberTrace full() {
        FiberTrace x = new FiberTrace();
        for (int place = 1; place <= 10; place++) {
            x.addPart(2, place, place, 0);
        }
        return x;
    }

    private static void tenParts() {
        Checks.sentence("Link", "There are at most 10 parts");
        Checks.sentence("6", "LIMIT_REACHED if there are 10 parts.");
        FiberTrace x = full();
        Checks.due("parts", x.count(14), 10);
        for (int kind = 0; kind < 3; kind++) {
            Checks.due("an 11th of kind " + kind, x.addPart(kind, 11, 5, kind == 1 ? 5 : 0), Checks.LIMIT);
        }
        Checks.due("parts", x.count(14), 10);
        x.removePart(9);
        Checks.due("a 10th", x.addPart(0, 11, 5, 0), 9);
        Checks.due("an 11th", x.addPart(0, 12, 5, 0), Checks.LIMIT);
    }

    private static void differentPlaces() {
        Checks.sentence("Link", "at different places");
        Checks.sentence("6", "NOT_POSSIBLE if there is a part at this place");
        FiberTrace x = Checks.laid("connector 60 1 2;");
        for (int kind = 0; kind < 3; kind++) {
            Checks.due("kind " + kind, x.addPart(kind, 60, 5, kind == 1 ? 5 : 0), Checks.NOT_POSSIBLE);
        }
        Checks.due("its loss stays", x.part(0, 2), 1);
        Checks.due("just ahead", x.addPart(0, 59, 5, 0), 0);
        Checks.due("just behind", x.addPart(0, 61, 5, 0), 2);
        x.removePart(1);
        Checks.due("the free place", x.addPart(0, 60, 5, 0), 1);
    }

    private static void firstAndLastPlace() {
        Checks.sentence("Link", "from 1 to length - 1");
        Checks.sentence("6", "`place`: 1 to length - 1");
        for (int length : new int[] {50, 200, 400}) {
            String text = "length " + length + ";";
            Checks.onlyWithin("splice", p -> Checks.laid(text).addPart(0, p, 5, 0), 1, length - 1);
            Checks.onlyWithin("connector", p -> Checks.laid(text).addPart(1, p, 5, 5), 1, length - 1);
            Checks.onlyWithin("change", p -> Checks.laid(text).addPart(2, p, 5, 0), 1, length - 1);
        }
    }

    private static void ascendingPlaces() {
        Checks.sentence("Link", "told by numbers from 0 by ascending places");
        FiberTrace x = new FiberTrace();
        Checks.due("the only one", x.addPart(0, 199, 1, 0), 0);
        Checks.due("ahead of it", x.addPart(2, 1, 2, 0), 0);
        Checks.due("between", x.addPart(1, 100, 3, 9), 1);
        Checks.due("between", x.addPart(0, 101, 4, 0), 2);
        Checks.row("place", n -> x.part(n, 1), 0, 1, 100, 101, 199, Checks.INVALID);
        Checks.row("kind", n -> x.part(n, 0), 0, 2, 1, 0, 0);
        Checks.row("loss", n -> x.part(n, 2), 0, 2, 3, 4, 1);
    }

    private static void spliceLoss() {
        Checks.sentence("Link", "a splice, with a loss from -500 to 5000,");
        Checks.onlyWithin("splice", loss -> new FiberTrace().addPart(0, 60, loss, 0), -500, 5000);
        Checks.faultIs("splice 60 -501;", 0, 3, 2);
        Checks.faultIs("splice 60 5001;", 0, 3, 2);
        Checks.soundIs("splice 60 -500;splice 61 5000;");
    }

    private static void connectorLossAndReflection() {
        Checks.sentence("Link", "a connector, with a loss from 0 to 5000 and a reflection from 1 to 20000, or");
        Checks.onlyWithin("loss", loss -> new FiberTrace().addPart(1, 60, loss, 9), 0, 5000);
        Checks.onlyWithin("reflection", height -> new FiberTrace().addPart(1, 60, 9, height), 1, 20000);
        Checks.faultIs("connector 60 -1 9;", 0, 3, 2);
        Checks.faultIs("connector 60 5001 9;", 0, 3, 2);
        Checks.faultIs("connector 60 9 0;", 0, 3, 3);
        Checks.faultIs("connector 60 9 20001;", 0, 3, 3);
        Checks.soundIs("connector 60 0 1;connector 61 5000 20000;");
    }

    private static void changeAttenuation() {
        Checks.sentence("Link", "a change, with an attenuation from 0 to 50");
        Checks.onlyWithin("change", rate -> new FiberTrace().addPart(2, 60, rate, 0), 0, 50);
        Checks.faultIs("change 60 -1;", 0, 3, 2);
        Checks.faultIs("change 60 51;", 0, 3, 2);
        Checks.soundIs("change 60 0;change 61 50;");
    }

    private static void changeHolds() {
        Checks.sentence("Link", "which holds from its place on");
        FiberTrace x = Checks.laid("change 1 30;change 199 7;");
        Checks.row("lineLoss", x::lineLoss, 0, 0, 10, 40, 70);
        Checks.row("lineLoss", x::lineLoss, 198, 10 + 197 * 30, 10 + 198 * 30, 10 + 198 * 30 + 7);
        Checks.row("base", p -> x.sample(p, 1), 0, 50000, 49990, 49960);
    }

    private static void nextChange() {
        Checks.sentence("Link", "(up to the next change)");
        FiberTrace x = Checks.laid("change 60 30;change 61 0;change 63 50;");
        Checks.row("lineLoss", x::lineLoss, 59, 590, 600, 630, 630, 630, 680, 730);
        Checks.row("base", p -> x.sample(p, 1), 59, 49410, 49400, 49370, 49370, 49370, 49320);
    }

    private static void lineLossPlaces() {
        Checks.sentence("Link", "The line loss up to a place x (0 to length)");
        Checks.sentence("12", "`place`: 0 to length");
        Checks.sentence("12", "INVALID_ARGUMENT if place is out of range.");
        for (int length : new int[] {50, 200, 400}) {
            FiberTrace x = Checks.laid("length " + length + ";");
            Checks.onlyWithin("lineLoss", x::lineLoss, 0, length);
            Checks.due("lineLoss of all", x.lineLoss(length), 10 * length);
        }
    }

    private static void lineLossUnits() {
        Checks.sentence("Link", "the attenuations of the units from 0 to x - 1, each that which holds at its place");
        FiberTrace x = Checks.laid("attenuation 7;change 2 50;");
        Checks.row("lineLoss", x::lineLoss, 0, 0, 7, 14, 64, 114);
        Checks.due("lineLoss of all", x.lineLoss(200), 14 + 198 * 50);
    }

    private static void lineLossParts() {
        Checks.sentence("Link", "plus the losses of all splices and connectors at places less than x");
        FiberTrace x = Checks.laid("attenuation 0;splice 1 -50;connector 2 5 9;change 3 0;splice 199 1000;");
        Checks.row("lineLoss", x::lineLoss, 0, 0, 0, -50, -45, -45);
        Checks.row("lineLoss", x::lineLoss, 198, -45, -45, 955);
    }

    private static void lineLossOfWhatRemains() {
        Checks.sentence("12", "Returns the line loss up to a place.");
        FiberTrace x = Checks.laid("splice 60 100;change 80 50;");
        Checks.due("with both", x.lineLoss(200), 800 + 120 * 50 + 100);
        x.removePart(1);
        Checks.due("without the change", x.lineLoss(200), 2100);
        Checks.due("base without the change", x.sample(199, 1), 50000 - 1990 - 100);
        x.removePart(0);
        Checks.due("without parts", x.lineLoss(200), 2000);
        Checks.due("base without parts", x.sample(199, 1), 50000 - 1990);
    }

    private static void kinds() {
        Checks.sentence("6", "`kind`: 0 for a splice, 1 for a connector, 2 for a change");
        Checks.onlyWithin("kind with a reflection of 0", kind ->
                kind == 1 ? 0 : new FiberTrace().addPart(kind, 60, 5, 0), 0, 2);
        Checks.due("a connector with 0", new FiberTrace().addPart(1, 60, 5, 0), Checks.INVALID);
        Checks.due("a kind of 3 with a reflection", new FiberTrace().addPart(3, 60, 5, 5), Checks.INVALID);
    }

    private static int stored(int kind, int loss, int reflection, int what) {
        FiberTrace x = new FiberTrace();
        int answer = x.addPart(kind, 60, loss, reflection);
        return answer < 0 ? answer : x.part(0, what);
    }

    private static void storedLosses() {
        Checks.sentence("6", "`loss`: its loss");
        Checks.sentence("11", "2: its loss, or attenuation");
        Checks.row("splice", loss -> stored(0, loss, 0, 2), -501, Checks.INVALID, -500, -499);
        Checks.row("splice", loss -> stored(0, loss, 0, 2), 4999, 4999, 5000, Checks.INVALID);
        Checks.row("connector", loss -> stored(1, loss, 9, 2), -1, Checks.INVALID, 0, 1);
        Checks.row("connector", loss -> stored(1, loss, 9, 2), 4999, 4999, 5000, Checks.INVALID);
    }

    private static void storedAttenuations() {
        Checks.sentence("6", "for a change its attenuation");
        Checks.row("change", rate -> stored(2, rate, 0, 2), -1, Checks.INVALID, 0, 1);
        Checks.row("change", rate -> stored(2, rate, 0, 2), 49, 49, 50, Checks.INVALID);
    }

    private static void storedReflections() {
        Checks.sentence("6", "`reflection`: for a connector its reflection");
        Checks.row("connector", height -> stored(1, 9, height, 3), -1, Checks.INVALID, Checks.INVALID, 1, 2);
        Checks.row("connector", height -> stored(1, 9, height, 3), 19999, 19999, 20000, Checks.INVALID);
    }

    private static void noReflections() {
        Checks.sentence("6", "otherwise 0");
        for (int kind : new int[] {0, 2}) {
            Checks.onlyWithin("kind " + kind, height -> new FiberTrace().addPart(kind, 60, 9, height), 0, 0);
        }
    }

    private static void numbersOfNewParts() {
        Checks.sentence("6", "Returns the number of the part");
        FiberTrace x = new FiberTrace();
        for (int n = 0; n < 9; n++) {
            Checks.due("behind " + n, x.addPart(0, 20 + n, 5, 0), n);
        }
        Checks.due("the first of 10", x.addPart(0, 19, 5, 0), 0);
        x.removePart(0);
        Checks.due("the last of 10", x.addPart(0, 29, 5, 0), 9);
    }

    private static void wrongParts() {
        Checks.sentence("6", "INVALID_ARGUMENT if an argument is out of range");
        int[][] wrong = {{-1, 60, 5, 0}, {3, 60, 5, 0}, {0, 0, 5, 0}, {0, 200, 5, 0}, {0, 60, 5001, 0}, {0, 60, 5, 1},
            {1, 60, -1, 5}, {1, 60, 5, 0}, {1, 60, 5, 20001}, {2, 60, 51, 0}, {2, 60, -1, 0}, {2, 60, 5, 1}, {9, 0, 9999, 9}};
        for (int[] a : wrong) {
            FiberTrace x = new FiberTrace();
            Checks.due(java.util.Arrays.toString(a), x.addPart(a[0], a[1], a[2], a[3]), Checks.INVALID);
            Checks.due("parts", x.count(14), 0);
        }
    }

    private static void removedParts() {
        Checks.sentence("7", "`part`: number of the part");
        Checks.due("the first", removed(0).part(0, 1), 2);
        Checks.due("behind the last", removed(0).part(9, 1), Checks.INVALID);
        Checks.due("the last", removed(9).part(8, 1), 9);
        Checks.due("one between", removed(4).part(3, 1), 4);
        Checks.due("the one behind it", removed(4).part(4, 1), 6);
        Checks.due("its attenuation", removed(4).part(4, 2), 6);
        Checks.due("the last one then", removed(4).part(8, 1), 10);
    }

    private static FiberTrace removed(int part) {
        FiberTrace x = full();
        x.removePart(part);
        return x;
    }

    private static void partsThatRemain() {
        Checks.sentence("7", "Returns the number of parts that remain");
        FiberTrace x = full();
        for (int left = 9; left >= 0; left--) {
            Checks.due("removePart", x.removePart(left / 2), left);
            Checks.due("parts", x.count(14), left);
        }
    }

    private static void noSuchPart() {
        Checks.sentence("7", "INVALID_ARGUMENT if there is no such part.");
        Checks.due("of none", new FiberTrace().removePart(0), Checks.INVALID);
        Checks.onlyWithin("of one", n -> Checks.laid("splice 5 5;").removePart(n), 0, 0);
        Checks.onlyWithin("of ten", n -> full().removePart(n), 0, 9);
    }

    private static void partProperties() {
        Checks.sentence("11", "`part`: number of the part");
        Checks.sentence("11", "`what`: 0: its kind");
        Checks.due("of none", new FiberTrace().part(0, 0), Checks.INVALID);
        FiberTrace x = full();
        Checks.onlyWithin("of ten", n -> x.part(n, 0), 0, 9);
        Checks.onlyWithin("of one", n -> Checks.laid("splice 5 5;").part(n, 3), 0, 0);
        Checks.onlyWithin("what of a change", what -> x.part(9, what), 0, 5);
        Checks.row("property", what -> x.part(9, what), 0, 2, 10, 10, 0, 2, Checks.NOT_FOUND, Checks.INVALID);
    }

    private static void partReflection() {
        Checks.sentence("11", "3: its reflection (0 if it has none)");
        FiberTrace x = Checks.laid("splice 5 5;connector 6 6 1;change 7 7;connector 8 8 20000;");
        Checks.row("reflection", n -> x.part(n, 3), 0, 0, 1, 0, 20000);
        x.removePart(1);
        Checks.row("reflection", n -> x.part(n, 3), 0, 0, 0, 20000, Checks.INVALID);
    }

    private static void wrongPartProperties() {
        Checks.sentence("11", "INVALID_ARGUMENT if an argument is out of range");
        FiberTrace x = Checks.laid("splice 5 5;change 7 7;");
        for (int what = -1; what <= 6; what++) {
            Checks.due("part(-1, " + what + ")", x.part(-1, what), Checks.INVALID);
            Checks.due("part(2, " + what + ")", x.part(2, what), Checks.INVALID);
        }
        Checks.onlyWithin("what of a splice", what -> x.part(0, what), 0, 5);
    }
}
