/** Promises 1 to 12: texts, the link and the settings. */
public final class LinkPromisesTest {
    private static final int[] FIRST = {5, 1500, 9000, 0, 4, 1, 600, 60, 8000, 3, 150};
    private static final int[] LEAST = {1, 100, 0, 0, 1, 0, 10, 5, 0, 0, 0};
    private static final int[] GREATEST = {20, 5000, 40000, 400, 32, 65535, 5000, 2000, 40000, 20, 2000};

    public static void main(String[] args) {
        promise1NewObject();
        promise2Type();
        promise3ClearText();
        promise4FaultReasons();
        promise4FaultWords();
        promise4FaultNumbers();
        promise4FaultOrder();
        promise4FaultWrongInputs();
        promise5Lay();
        promise6AddPart();
        promise6AddPartErrors();
        promise7RemovePart();
        promise8Set();
        promise9Undo();
        promise9UndoLimit();
        promise10Count();
        promise11Part();
        promise11Findings();
        promise12LineLoss();
        Checks.finish();
    }

    private static void promise1NewObject() {
        FiberTrace x = new FiberTrace();
        for (int what = 0; what < FIRST.length; what++) {
            Checks.due("1: count(" + what + ")", x.count(what), FIRST[what]);
        }
        Checks.due("1: length", x.count(11), 200);
        Checks.due("1: attenuation", x.count(12), 10);
        Checks.due("1: end reflection", x.count(13), 12000);
        Checks.due("1: parts", x.count(14), 0);
        Checks.due("1: kept", x.count(16), 0);
        Checks.due("1: history", x.count(17), 0);
        Checks.due("1: text", x.count(18), 0);
        Checks.due("1: undo", x.undo(), Checks.NOT_POSSIBLE);
    }

    private static void promise2Type() {
        FiberTrace x = new FiberTrace();
        Checks.due("2: type(31)", x.type(31), Checks.INVALID);
        Checks.due("2: type(127)", x.type(127), Checks.INVALID);
        Checks.due("2: type(MIN)", x.type(Integer.MIN_VALUE), Checks.INVALID);
        Checks.due("2: type(32)", x.type(32), 1);
        Checks.due("2: type(126)", x.type(126), 2);
        for (int i = 3; i <= 120; i++) {
            Checks.due("2: type(65)", x.type(65), i);
        }
        Checks.due("2: a 121st", x.type(65), Checks.LIMIT);
        Checks.due("2: a wrong 121st", x.type(200), Checks.INVALID);
        Checks.due("2: length", x.count(18), 120);
        Checks.due("2: is no change", x.count(17), 0);
    }

    private static void promise3ClearText() {
        FiberTrace x = new FiberTrace();
        Checks.due("3: empty", x.clearText(), 0);
        Checks.write(x, "what");
        Checks.due("3: four", x.clearText(), 4);
        Checks.due("3: then none", x.count(18), 0);
        Checks.due("3: then no fault", x.fault(0), Checks.NOT_FOUND);
        Checks.write(x, "end 0;");
        Checks.due("3: the new text is alone", x.lay(), 0);
        Checks.due("3: end", x.count(13), 0);
    }

    private static void promise4FaultReasons() {
        Checks.faultIs(";", 0, 1, 0);
        Checks.faultIs(" end 5;", 0, 1, 0);
        Checks.faultIs("End 5;", 0, 1, 0);
        Checks.faultIs("end 5; end", 6, 1, 0);
        Checks.faultIs("chang", 0, 1, 0);
        Checks.faultIs("end", 0, 2, 1);
        Checks.faultIs("end ", 0, 2, 1);
        Checks.faultIs("end;", 0, 2, 1);
        Checks.faultIs("end5;", 0, 2, 1);
        Checks.faultIs("end  5;", 0, 2, 1);
        Checks.faultIs("end -;", 0, 2, 1);
        Checks.faultIs("end --5;", 0, 2, 1);
        Checks.faultIs("length 49;", 0, 3, 1);
        Checks.faultIs("length 401;", 0, 3, 1);
        Checks.faultIs("attenuation 51;", 0, 3, 1);
        Checks.faultIs("attenuation -1;", 0, 3, 1);
        Checks.faultIs("end 20001;", 0, 3, 1);
        Checks.faultIs("end 5;end 5;", 6, 4, 1);
        Checks.faultIs("change 9 9;attenuation 5;", 11, 4, 1);
        Checks.faultIs("splice 9 9;change 9 9;", 11, 4, 2);
        Checks.faultIs("end 5", 0, 5, 1);
        Checks.faultIs("end 5 ;", 0, 5, 1);
        Checks.faultIs("end 5:", 0, 5, 1);
    }

    private static void promise4FaultWords() {
        for (String word : new String[] {"length", "attenuation", "end", "splice", "connector", "change"}) {
            for (char letter : "aizAIZ".toCharArray()) {
                Checks.faultIs(word + letter, 0, 1, 0);
                Checks.faultIs(word + letter + " 60 5 5;", 0, 1, 0);
            }
            for (char sign : "@[`{/0:_-; ".toCharArray()) {
                Checks.faultIs(word + sign, 0, 2, 1);
            }
            Checks.faultIs(word.substring(0, word.length() - 1), 0, 1, 0);
            Checks.faultIs("end 5;" + word + "s 1;", 6, 1, 0);
            Checks.faultIs("end 5;" + word + word, 6, 1, 0);
            Checks.faultIs(word, 0, 2, 1);
        }
        Checks.faultIs("splice 9 9splice 8 8;", 0, 5, 2);
        Checks.faultIs("splice 9 9;splice 8 8;changed", 22, 1, 0);
    }

    private static void promise4FaultNumbers() {
        Checks.faultIs("splice 200 5;", 0, 3, 1);
        Checks.faultIs("splice 0 5;", 0, 3, 1);
        Checks.faultIs("length 60;splice 60 5;", 10, 3, 1);
        Checks.faultIs("splice 5 5001;", 0, 3, 2);
        Checks.faultIs("splice 5 -501;", 0, 3, 2);
        Checks.faultIs("connector 5 -1 5;", 0, 3, 2);
        Checks.faultIs("connector 5 5001 5;", 0, 3, 2);
        Checks.faultIs("connector 5 5 0;", 0, 3, 3);
        Checks.faultIs("connector 5 5 20001;", 0, 3, 3);
        Checks.faultIs("connector 5 5;", 0, 2, 3);
        Checks.faultIs("change 5 51;", 0, 3, 2);
        Checks.faultIs("change 5 -1;", 0, 3, 2);
        Checks.faultIs("connector 5 5 5", 0, 5, 3);
        Checks.faultIs("splice 123456 5;", 0, 2, 2);
        Checks.faultIs("end 000001;", 0, 5, 1);
        Checks.soundIs("end 00001;");
        Checks.soundIs("end -00000;");
        Checks.soundIs("length 60;splice 59 -500;connector 1 5000 20000;change 2 50;");
        Checks.soundIs("end 20000;attenuation 0;length 400;splice 399 5000;");
        Checks.soundIs("splice 1 0;splice 2 0;splice 3 0;splice 4 0;splice 5 0;splice 6 0;splice 7 0;splice 8 0;splice 9 0;splice 10 0;");
    }

    private static void promise4FaultOrder() {
        Checks.faultIs("splice 999 ;", 0, 2, 2);
        Checks.faultIs("splice 9 9;splice 9 9999;", 11, 3, 2);
        Checks.faultIs("splice 9 9;splice 9 9", 11, 4, 2);
        Checks.faultIs("splice 9 9;length 9", 11, 3, 1);
        Checks.faultIs("splice 9 9;length 60", 11, 4, 1);
        Checks.faultIs("end 99999", 0, 3, 1);
        Checks.faultIs("connector 0 9999 0;", 0, 3, 1);
        Checks.faultIs("x;y;", 0, 1, 0);
    }

    private static void promise4FaultWrongInputs() {
        FiberTrace x = new FiberTrace();
        Checks.due("4: fault(0) of nothing", x.fault(0), Checks.NOT_FOUND);
        Checks.due("4: fault(-1) of nothing", x.fault(-1), Checks.INVALID);
        Checks.due("4: fault(3) of nothing", x.fault(3), Checks.INVALID);
        x.type('x');
        Checks.due("4: fault(3)", x.fault(3), Checks.INVALID);
        Checks.due("4: fault(-1)", x.fault(-1), Checks.INVALID);
    }

    private static void promise5Lay() {
        FiberTrace x = new FiberTrace();
        x.addPart(0, 7, 7, 0);
        x.set(0, 9);
        Checks.write(x, "length 80;attenuation 3;end 7;change 40 20;connector 9 10 11;splice 20 -5;");
        Checks.due("5: lay", x.lay(), 3);
        Checks.due("5: length", x.count(11), 80);
        Checks.due("5: attenuation", x.count(12), 3);
        Checks.due("5: end", x.count(13), 7);
        Checks.due("5: settings stay", x.count(0), 9);
        Checks.due("5: text stays", x.count(18), 74);
        Checks.due("5: a change", x.count(17), 3);
        Checks.due("5: first kind", x.part(0, 0), 1);
        Checks.due("5: first place", x.part(0, 1), 9);
        Checks.due("5: first loss", x.part(0, 2), 10);
        Checks.due("5: first reflection", x.part(0, 3), 11);
        Checks.due("5: second place", x.part(1, 1), 20);
        Checks.due("5: second loss", x.part(1, 2), -5);
        Checks.due("5: second reflection", x.part(1, 3), 0);
        Checks.due("5: third kind", x.part(2, 0), 2);
        Checks.due("5: third attenuation", x.part(2, 2), 20);
        x.clearText();
        Checks.due("5: lay nothing", x.lay(), 0);
        Checks.due("5: first length", x.count(11), 200);
        Checks.due("5: first attenuation", x.count(12), 10);
        Checks.due("5: first end", x.count(13), 12000);
        Checks.due("5: undo", x.undo(), 3);
        Checks.due("5: parts again", x.count(14), 3);
        Checks.write(x, "splice");
        Checks.due("5: lay a fault", x.lay(), Checks.NOT_POSSIBLE);
        Checks.due("5: parts stay", x.count(14), 3);
        Checks.due("5: no change", x.count(17), 3);
    }

    private static void promise6AddPart() {
        FiberTrace x = new FiberTrace();
        Checks.due("6: connector", x.addPart(1, 100, 0, 1), 0);
        Checks.due("6: ahead", x.addPart(0, 1, -500, 0), 0);
        Checks.due("6: behind", x.addPart(2, 199, 50, 0), 2);
        Checks.due("6: between", x.addPart(0, 50, 5000, 0), 1);
        Checks.due("6: place of 2", x.part(2, 1), 100);
        Checks.due("6: reflection of 2", x.part(2, 3), 1);
        Checks.due("6: history", x.count(17), 4);
        Checks.due("6: greatest", x.addPart(1, 60, 5000, 20000), 2);
        for (int place = 70; place < 75; place++) {
            Checks.due("6: more", x.addPart(2, place, 0, 0), place - 67);
        }
        Checks.due("6: an 11th", x.addPart(0, 80, 0, 0), Checks.LIMIT);
        Checks.due("6: an 11th on another", x.addPart(0, 70, 0, 0), Checks.NOT_POSSIBLE);
        Checks.due("6: a wrong 11th on another", x.addPart(0, 70, 0, 1), Checks.INVALID);
        Checks.due("6: parts", x.count(14), 10);
    }

    private static void promise6AddPartErrors() {
        FiberTrace x = new FiberTrace();
        int[][] wrong = {{-1, 5, 0, 0}, {3, 5, 0, 0}, {0, 0, 0, 0}, {0, 200, 0, 0}, {0, -5, 0, 0},
            {0, 5, -501, 0}, {0, 5, 5001, 0}, {0, 5, 0, 1}, {0, 5, 0, -1}, {1, 5, -1, 5}, {1, 5, 5001, 5},
            {1, 5, 0, 0}, {1, 5, 0, 20001}, {2, 5, -1, 0}, {2, 5, 51, 0}, {2, 5, 0, 1},
            {Integer.MIN_VALUE, 5, 0, 0}, {0, Integer.MAX_VALUE, 0, 0}, {1, 5, 0, Integer.MIN_VALUE}};
        for (int[] a : wrong) {
            Checks.due("6: addPart(" + a[0] + ", " + a[1] + ", " + a[2] + ", " + a[3] + ")",
                    x.addPart(a[0], a[1], a[2], a[3]), Checks.INVALID);
        }
        Checks.due("6: no change", x.count(17), 0);
        x.addPart(0, 5, 0, 0);
        Checks.due("6: the same place", x.addPart(2, 5, 7, 0), Checks.NOT_POSSIBLE);
        Checks.due("6: one change", x.count(17), 1);
        FiberTrace y = Checks.laid("length 50;");
        Checks.due("6: last place", y.addPart(0, 49, 0, 0), 0);
        Checks.due("6: the end", y.addPart(0, 50, 0, 0), Checks.INVALID);
    }

    private static void promise7RemovePart() {
        FiberTrace x = Checks.laid("splice 5 50;connector 6 60 600;change 7 7;");
        Checks.due("7: removePart(-1)", x.removePart(-1), Checks.INVALID);
        Checks.due("7: removePart(3)", x.removePart(3), Checks.INVALID);
        Checks.due("7: no change", x.count(17), 1);
        Checks.due("7: removePart(1)", x.removePart(1), 2);
        Checks.due("7: a change", x.count(17), 2);
        Checks.due("7: the next", x.part(1, 0), 2);
        Checks.due("7: its place", x.part(1, 1), 7);
        Checks.due("7: its attenuation", x.part(1, 2), 7);
        Checks.due("7: its reflection", x.part(1, 3), 0);
        Checks.due("7: the first", x.part(0, 1), 5);
        Checks.due("7: the last", x.removePart(1), 1);
        Checks.due("7: the only one", x.removePart(0), 0);
        Checks.due("7: none", x.removePart(0), Checks.INVALID);
    }

    private static void promise8Set() {
        for (int what = 0; what < FIRST.length; what++) {
            FiberTrace x = new FiberTrace();
            Checks.due("8: too small " + what, x.set(what, LEAST[what] - 1), Checks.INVALID);
            Checks.due("8: too great " + what, x.set(what, GREATEST[what] + 1), Checks.INVALID);
            Checks.due("8: no change " + what, x.count(17), 0);
            Checks.due("8: least " + what, x.set(what, LEAST[what]), FIRST[what]);
            Checks.due("8: greatest " + what, x.set(what, GREATEST[what]), LEAST[what]);
            Checks.due("8: the same " + what, x.set(what, GREATEST[what]), GREATEST[what]);
            Checks.due("8: value " + what, x.count(what), GREATEST[what]);
            Checks.due("8: changes " + what, x.count(17), 3);
        }
        FiberTrace x = new FiberTrace();
        Checks.due("8: set(-1, 5)", x.set(-1, 5), Checks.INVALID);
        Checks.due("8: set(11, 5)", x.set(11, 5), Checks.INVALID);
        Checks.due("8: set(MAX, MIN)", x.set(Integer.MAX_VALUE, Integer.MIN_VALUE), Checks.INVALID);
    }

    private static void promise9Undo() {
        FiberTrace x = new FiberTrace();
        x.addPart(1, 50, 500, 5000);
        x.set(0, 7);
        x.keep();
        x.removePart(0);
        Checks.write(x, "length 60;splice 5 5;");
        x.lay();
        Checks.due("9: undo lay", x.undo(), 4);
        Checks.due("9: length", x.count(11), 200);
        Checks.due("9: parts", x.count(14), 0);
        Checks.due("9: text stays", x.count(18), 21);
        Checks.due("9: undo removePart", x.undo(), 3);
        Checks.due("9: parts", x.count(14), 1);
        Checks.due("9: reflection", x.part(0, 3), 5000);
        Checks.due("9: kept", x.count(16), 1);
        Checks.due("9: undo keep", x.undo(), 2);
        Checks.due("9: kept none", x.count(16), 0);
        Checks.due("9: no kept trace", x.compare(0, 0, 0), Checks.INVALID);
        Checks.due("9: peak with the width", x.sample(56, 2), 5000);
        Checks.due("9: undo set", x.undo(), 1);
        Checks.due("9: width", x.count(0), 5);
        Checks.due("9: peak with the first width", x.sample(56, 2), 2000);
        Checks.due("9: undo addPart", x.undo(), 0);
        Checks.due("9: no part", x.count(14), 0);
        Checks.due("9: no history", x.undo(), Checks.NOT_POSSIBLE);
    }

    private static void promise9UndoLimit() {
        FiberTrace x = new FiberTrace();
        for (int width = 10; width <= 16; width++) {
            x.set(0, width);
            Checks.due("9: history", x.count(17), Math.min(width - 9, 5));
        }
        for (int left = 4; left >= 0; left--) {
            Checks.due("9: undo", x.undo(), left);
            Checks.due("9: width", x.count(0), 11 + left);
        }
        Checks.due("9: the oldest are dropped", x.undo(), Checks.NOT_POSSIBLE);
        Checks.due("9: width stays", x.count(0), 11);
        x.set(9, 9);
        x.set(9, 100);
        Checks.due("9: errors are no changes", x.undo(), 0);
        Checks.due("9: tolerance", x.count(9), 3);
    }

    private static void promise10Count() {
        FiberTrace x = Checks.laid("length 77;attenuation 7;end 70;splice 5 5;change 6 6;");
        x.keep();
        x.set(3, 30);
        int[] due = {5, 1500, 9000, 30, 4, 1, 600, 60, 8000, 3, 150, 77, 7, 70, 2, 137, 1, 3, 53};
        for (int what = 0; what < due.length; what++) {
            Checks.due("10: count(" + what + ")", x.count(what), due[what]);
        }
        Checks.due("10: count(-1)", x.count(-1), Checks.INVALID);
        Checks.due("10: count(19)", x.count(19), Checks.INVALID);
        Checks.due("10: count(MAX)", x.count(Integer.MAX_VALUE), Checks.INVALID);
    }

    private static void promise11Part() {
        FiberTrace x = Checks.laid("connector 40 20 14000;change 60 30;splice 100 300;");
        int[][] due = {{1, 40, 20, 14000, 0, 0}, {2, 60, 30, 0, 2, Checks.NOT_FOUND}, {0, 100, 300, 0, 0, 1}};
        for (int part = 0; part < due.length; part++) {
            for (int what = 0; what < 6; what++) {
                Checks.due("11: part(" + part + ", " + what + ")", x.part(part, what), due[part][what]);
            }
        }
        Checks.due("11: part(-1, 0)", x.part(-1, 0), Checks.INVALID);
        Checks.due("11: part(3, 0)", x.part(3, 0), Checks.INVALID);
        Checks.due("11: part(0, -1)", x.part(0, -1), Checks.INVALID);
        Checks.due("11: part(0, 6)", x.part(0, 6), Checks.INVALID);
        Checks.due("11: part(1, 6)", x.part(1, 6), Checks.INVALID);
    }

    /** The connector's event goes from 40 to 54, and its ghosts lie beyond the trace. */
    private static void promise11Findings() {
        FiberTrace x = Checks.laid("connector 40 0 14000;splice 43 1;splice 44 1;splice 54 1;splice 55 1;");
        Checks.due("11: begin", x.event(0, 0), 40);
        Checks.due("11: end", x.event(0, 1), 54);
        int[][] due = {{0, 0}, {0, 0}, {1, 0}, {1, 0}, {2, Checks.NOT_FOUND}};
        for (int part = 0; part < due.length; part++) {
            Checks.due("11: part(" + part + ", 4)", x.part(part, 4), due[part][0]);
            Checks.due("11: part(" + part + ", 5)", x.part(part, 5), due[part][1]);
        }
        x.set(9, 4);
        Checks.due("11: within a greater tolerance", x.part(2, 4), 0);
        x.set(9, 20);
        Checks.due("11: behind the begin", x.part(4, 4), 0);
        FiberTrace y = Checks.laid("connector 40 0 14000;connector 60 0 14000;splice 80 0;splice 37 0;splice 36 0;");
        Checks.due("11: a ghost", y.event(2, 4), 2);
        Checks.due("11: at the ghost's begin", y.event(2, 0), 80);
        Checks.due("11: a ghost finds nothing", y.part(4, 4), 1);
        Checks.due("11: a ghost hides", y.part(4, 5), 2);
        Checks.due("11: T before", y.part(1, 4), 0);
        Checks.due("11: more than T before", y.part(0, 4), 2);
    }

    private static void promise12LineLoss() {
        FiberTrace x = Checks.laid("attenuation 7;connector 20 100 5;change 30 11;splice 40 -50;change 50 0;");
        Checks.due("12: 0", x.lineLoss(0), 0);
        Checks.due("12: 1", x.lineLoss(1), 7);
        Checks.due("12: 20", x.lineLoss(20), 140);
        Checks.due("12: 21", x.lineLoss(21), 247);
        Checks.due("12: 30", x.lineLoss(30), 310);
        Checks.due("12: 31", x.lineLoss(31), 321);
        Checks.due("12: 40", x.lineLoss(40), 420);
        Checks.due("12: 41", x.lineLoss(41), 381);
        Checks.due("12: 50", x.lineLoss(50), 480);
        Checks.due("12: 51", x.lineLoss(51), 480);
        Checks.due("12: 200", x.lineLoss(200), 480);
        Checks.due("12: -1", x.lineLoss(-1), Checks.INVALID);
        Checks.due("12: 201", x.lineLoss(201), Checks.INVALID);
        FiberTrace y = Checks.laid("length 50;");
        Checks.due("12: 50 of 50", y.lineLoss(50), 500);
        Checks.due("12: 51 of 50", y.lineLoss(51), Checks.INVALID);
    }
}
