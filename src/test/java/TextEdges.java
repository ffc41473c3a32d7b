/** The edges that the document names of texts: their section, and promises 2 to 5. */
final class TextEdges {
    private static final String[] WORDS = {"length", "attenuation", "end", "splice", "connector", "change"};
    private static final String[] ITEMS = {"length 100;", "attenuation 5;", "end 5;", "splice 60 5;",
        "connector 60 5 5;", "change 60 5;"};
    private static final int[] NUMBERS = {1, 1, 1, 2, 3, 2};

    private TextEdges() {
    }

    static void check() {
        emptyText();
        fullText();
        itemsEnd();
        blanks();
        oneNumber();
        placeAndLoss();
        placeLossAndReflection();
        placeAndAttenuation();
        digits();
        zerosAhead();
        sixthDigit();
        onceEach();
        aheadOfAllParts();
        firstValues();
        firstFault();
        noSuchWord();
        missingNumbers();
        rangesByTheLength();
        samePlace();
        noSemicolon();
        firstReason();
        numbersOfFaults();
        numbersOfWholeItems();
        characters();
        lengths();
        limitOfCharacters();
        clearedText();
        lengthsOfClearedTexts();
        faultProperties();
        noFault();
        textStays();
        numbersOfParts();
        faultsAreNotLaid();
    }

    /** Nine parts of 11 characters and one of 21. */
    private static String longest() {
        StringBuilder text = new StringBuilder();
        for (int place = 1; place <= 9; place++) {
            text.append("splice ").append(place).append(" 0;");
        }
        return text.append("connector 10 00001 1;").toString();
    }

    private static void emptyText() {
        Checks.sentence("Texts", "initially empty");
        FiberTrace x = new FiberTrace();
        Checks.due("length", x.count(18), 0);
        Checks.due("clearText", x.clearText(), 0);
        Checks.due("the first character", x.type(32), 1);
    }

    private static void fullText() {
        Checks.sentence("Texts", "There is a text of at most 120 characters");
        FiberTrace x = Checks.typed(longest());
        Checks.due("length", x.count(18), 120);
        Checks.due("one more", x.type(';'), Checks.LIMIT);
        Checks.due("length", x.count(18), 120);
        Checks.due("fault", x.fault(1), Checks.NOT_FOUND);
        Checks.due("parts", x.lay(), 10);
        Checks.row("the last part", what -> x.part(9, what), 0, 1, 10, 1, 1);
        FiberTrace cut = Checks.typed("end 00005;" + longest());
        Checks.due("length", cut.count(18), 120);
        Checks.due("a cut text", cut.fault(0), 10 + 99);
        Checks.due("its reason", cut.fault(1), 2);
    }

    private static void itemsEnd() {
        Checks.sentence("Texts", "As a link it is a sequence of items, each followed by \";\"");
        for (int word = 0; word < 6; word++) {
            String item = ITEMS[word].substring(0, ITEMS[word].length() - 1);
            Checks.soundIs(item + ";");
            Checks.faultIs(item, 0, 5, NUMBERS[word]);
            Checks.faultIs(item + ",", 0, 5, NUMBERS[word]);
            Checks.faultIs(item + " ;", 0, 5, NUMBERS[word]);
            Checks.faultIs(item + ";;", item.length() + 1, 1, 0);
            Checks.faultIs(item + "; ", item.length() + 1, 1, 0);
        }
        Checks.faultIs(";", 0, 1, 0);
    }

    private static void blanks() {
        Checks.sentence("Texts", "then its numbers, each with one blank ahead of it");
        for (int word = 0; word < 6; word++) {
            for (int number = 1; number <= NUMBERS[word]; number++) {
                String ahead = WORDS[word] + " 60".repeat(number - 1);
                Checks.faultIs(ahead + "5;", 0, 2, number);
                Checks.faultIs(ahead + "  5;", 0, 2, number);
                Checks.faultIs(ahead + "_5;", 0, 2, number);
            }
            Checks.faultIs(" " + ITEMS[word], 0, 1, 0);
        }
    }

    private static void oneNumber() {
        Checks.sentence("Texts", "a length, an attenuation, an end reflection;");
        FiberTrace x = Checks.laid("length 60;attenuation 7;end 8;");
        Checks.row("count", x::count, 11, 60, 7, 8, 0);
        for (int word = 0; word < 3; word++) {
            Checks.faultIs(WORDS[word] + ";", 0, 2, 1);
            Checks.faultIs(WORDS[word] + " 50 5;", 0, 5, 1);
        }
    }

    private static void placeAndLoss() {
        Checks.sentence("Texts", "a place and a loss;");
        FiberTrace x = Checks.laid("splice 60 -7;");
        Checks.row("part", what -> x.part(0, what), 0, 0, 60, -7, 0);
        Checks.faultIs("splice;", 0, 2, 1);
        Checks.faultIs("splice 60;", 0, 2, 2);
        Checks.faultIs("splice 60 7 0;", 0, 5, 2);
    }

    private static void placeLossAndReflection() {
        Checks.sentence("Texts", "a place, a loss and a reflection;");
        FiberTrace x = Checks.laid("connector 60 7 8;");
        Checks.row("part", what -> x.part(0, what), 0, 1, 60, 7, 8);
        Checks.faultIs("connector;", 0, 2, 1);
        Checks.faultIs("connector 60;", 0, 2, 2);
        Checks.faultIs("connector 60 7;", 0, 2, 3);
        Checks.faultIs("connector 60 7 8 9;", 0, 5, 3);
    }

    private static void placeAndAttenuation() {
        Checks.sentence("Texts", "a place and an attenuation.");
        FiberTrace x = Checks.laid("change 60 7;");
        Checks.row("part", what -> x.part(0, what), 0, 2, 60, 7, 0);
        Checks.faultIs("change;", 0, 2, 1);
        Checks.faultIs("change 60;", 0, 2, 2);
        Checks.faultIs("change 60 7 0;", 0, 5, 2);
    }

    private static void digits() {
        Checks.sentence("Texts", "A number is an optional \"-\" and 1 to 5 digits");
        Checks.due("one digit", Checks.laid("end 7;").count(13), 7);
        Checks.due("five digits", Checks.laid("end 12345;").count(13), 12345);
        Checks.due("a sign and one", Checks.laid("splice 60 -7;").part(0, 2), -7);
        Checks.due("a sign and five", Checks.laid("splice 60 -00123;").part(0, 2), -123);
        Checks.due("a sign and 0", Checks.laid("end -0;").count(13), 0);
        Checks.faultIs("end ;", 0, 2, 1);
        Checks.faultIs("end -;", 0, 2, 1);
        Checks.faultIs("end --5;", 0, 2, 1);
        Checks.faultIs("end +5;", 0, 2, 1);
        Checks.faultIs("end - 5;", 0, 2, 1);
        Checks.faultIs("end /;", 0, 2, 1);
        Checks.faultIs("end :;", 0, 2, 1);
        Checks.faultIs("end 5-;", 0, 5, 1);
        Checks.faultIs("end 5/;", 0, 5, 1);
        Checks.faultIs("end 5:;", 0, 5, 1);
        Checks.faultIs("end -99999;", 0, 3, 1);
        Checks.due("all digits", Checks.laid("end 09876;splice 123 45;").count(13), 9876);
    }

    private static void zerosAhead() {
        Checks.sentence("Texts", "zeros may stand ahead");
        Checks.due("00060", Checks.laid("length 00060;").count(11), 60);
        Checks.due("00000", Checks.laid("end 00000;").count(13), 0);
        Checks.due("-00500", Checks.laid("splice 060 -00500;").part(0, 2), -500);
        Checks.due("060", Checks.laid("splice 060 -00500;").part(0, 1), 60);
        Checks.faultIs("length 00049;", 0, 3, 1);
    }

    private static void sixthDigit() {
        Checks.sentence("Texts", "a sixth digit is no part of it, but what follows");
        Checks.faultIs("end 000005;", 0, 5, 1);
        Checks.faultIs("end 123456;", 0, 5, 1);
        Checks.faultIs("end 200000;", 0, 5, 1);
        Checks.faultIs("length 500000;", 0, 3, 1);
        Checks.faultIs("splice 000605;", 0, 2, 2);
        Checks.faultIs("splice 000060 5;", 0, 2, 2);
        Checks.faultIs("splice 60 -000005;", 0, 5, 2);
        Checks.faultIs("connector 60 5 200001;", 0, 5, 3);
        Checks.faultIs("connector 60 5 000001;", 0, 3, 3);
    }

    private static void onceEach() {
        Checks.sentence("Texts", "\"length\", \"attenuation\" and \"end\" may come once each");
        Checks.soundIs(ITEMS[0] + ITEMS[1] + ITEMS[2]);
        Checks.soundIs(ITEMS[2] + ITEMS[1] + ITEMS[0]);
        Checks.soundIs(ITEMS[1] + ITEMS[0] + ITEMS[2]);
        for (int word = 0; word < 3; word++) {
            String item = ITEMS[word];
            String other = ITEMS[(word + 1) % 3];
            Checks.faultIs(item + item, item.length(), 4, 1);
            Checks.faultIs(item + other + item, item.length() + other.length(), 4, 1);
        }
    }

    private static void aheadOfAllParts() {
        Checks.sentence("Texts", "and only ahead of all parts");
        for (int word = 0; word < 3; word++) {
            for (int part = 3; part < 6; part++) {
                Checks.soundIs(ITEMS[word] + ITEMS[part]);
                Checks.faultIs(ITEMS[part] + ITEMS[word], ITEMS[part].length(), 4, 1);
                Checks.faultIs(ITEMS[word] + ITEMS[part] + ITEMS[word], ITEMS[word].length() + ITEMS[part].length(), 4, 1);
            }
        }
    }

    private static void firstValues() {
        Checks.sentence("Texts", "if they do not come, the first values hold.");
        FiberTrace x = Checks.laid("length 60;attenuation 7;end 8;splice 5 5;");
        x.clearText();
        Checks.write(x, "splice 199 5;");
        Checks.due("lay", x.lay(), 1);
        Checks.row("count", x::count, 11, 200, 10, 12000, 1);
        int[] first = {200, 10, 12000};
        for (int word = 0; word < 3; word++) {
            FiberTrace one = Checks.laid(ITEMS[word]);
            for (int what = 0; what < 3; what++) {
                Checks.due("count(" + (11 + what) + ") of " + ITEMS[word], one.count(11 + what),
                        what != word ? first[what] : what == 0 ? 100 : 5);
            }
        }
    }

    private static void firstFault() {
        Checks.sentence("Texts", "The fault of the text is the index of the first character of the first item that is not possible;");
        Checks.faultIs("end 5;end 5;x", 6, 4, 1);
        Checks.faultIs("x;end 5;", 0, 1, 0);
        Checks.faultIs("splice 60 5;change 61 51;change 61 52;", 12, 3, 2);
        Checks.faultIs(longest().substring(0, 99) + "x", 99, 1, 0);
        Checks.faultIs(longest().substring(0, 119), 99, 5, 3);
    }

    private static void noSuchWord() {
        Checks.sentence("Texts", "its reason is 1 if there is no such word");
        for (String word : WORDS) {
            Checks.faultIs(word.substring(1) + " 60 5 5;", 0, 1, 0);
            Checks.faultIs(word.substring(0, word.length() - 1) + " 60 5 5;", 0, 1, 0);
            Checks.faultIs(word + "s 60 5 5;", 0, 1, 0);
            Checks.faultIs(word.substring(0, 1), 0, 1, 0);
            Checks.faultIs(word.toUpperCase() + " 60 5 5;", 0, 1, 0);
            for (int i = 0; i < word.length(); i++) {
                Checks.faultIs(word.substring(0, i) + "z" + word.substring(i + 1) + " 60 5 5;", 0, 1, 0);
            }
        }
        Checks.faultIs("5;", 0, 1, 0);
        Checks.faultIs("-5", 0, 1, 0);
        Checks.faultIs(" ", 0, 1, 0);
        Checks.faultIs("part 60 5;", 0, 1, 0);
    }

    private static void missingNumbers() {
        Checks.sentence("Texts", "2 if a number (or the blank ahead of it) is missing");
        for (int word = 0; word < 6; word++) {
            for (int number = 1; number <= NUMBERS[word]; number++) {
                String ahead = WORDS[word] + " 60".repeat(number - 1);
                for (String rest : new String[] {"", ";", " ", " ;", " -", " x", "_;"}) {
                    Checks.faultIs(ahead + rest, 0, 2, number);
                }
            }
        }
    }

    /** Not by the length of the link that is there. */
    private static void rangesByTheLength() {
        Checks.sentence("Texts", "3 if a number is out of its range (a place by the length that the text has told, or 200)");
        for (int word = 3; word < 6; word++) {
            String rest = " 5" + (word == 4 ? " 5;" : ";");
            for (int length : new int[] {50, 200, 400}) {
                String told = "length " + length + ";";
                Checks.faultIs(told + WORDS[word] + " " + length + rest, told.length(), 3, 1);
                Checks.soundIs(told + WORDS[word] + " " + (length - 1) + rest);
            }
            Checks.soundIs(WORDS[word] + " 1" + rest);
            Checks.faultIs(WORDS[word] + " 0" + rest, 0, 3, 1);
            Checks.faultIs(WORDS[word] + " -1" + rest, 0, 3, 1);
            Checks.soundIs(WORDS[word] + " 199" + rest);
            Checks.faultIs(WORDS[word] + " 200" + rest, 0, 3, 1);
        }
        FiberTrace x = Checks.laid("length 400;");
        x.clearText();
        Checks.write(x, "splice 200 5;");
        Checks.due("in a link of 400", x.fault(1), 3);
    }

    private static void samePlace() {
        Checks.sentence("Texts", "4 if the item comes twice, too late, at a place of a part that is there, or is an 11th part");
        for (int first = 3; first < 6; first++) {
            for (int second = 3; second < 6; second++) {
                Checks.faultIs(ITEMS[first] + ITEMS[second], ITEMS[first].length(), 4, NUMBERS[second]);
                Checks.soundIs(ITEMS[first] + WORDS[second] + " 5".repeat(NUMBERS[second]) + ";");
            }
        }
        Checks.faultIs("splice 1 2;splice 2 1;splice 1 3;", 22, 4, 2);
        Checks.soundIs("splice 1 2;splice 2 1;splice 3 2;");
        FiberTrace x = Checks.laid("splice 60 5;");
        x.clearText();
        Checks.write(x, "splice 60 5;");
        Checks.due("of another link", x.fault(1), Checks.NOT_FOUND);
        Checks.soundIs(longest());
    }

    private static void noSemicolon() {
        Checks.sentence("Texts", "5 if there is no \";\" behind it");
        Checks.faultIs("end 5", 0, 5, 1);
        Checks.faultIs("end 5,end 6;", 0, 5, 1);
        Checks.faultIs("end 5end 6;", 0, 5, 1);
        Checks.faultIs("splice 60 5 ;", 0, 5, 2);
        Checks.faultIs("connector 60 5 5x;", 0, 5, 3);
    }

    private static void firstReason() {
        Checks.sentence("Texts", "the first one of these that applies.");
        Checks.faultIs("lengths 49", 0, 1, 0);
        Checks.faultIs("splice 999;", 0, 2, 2);
        Checks.faultIs("connector 0 9999;", 0, 2, 3);
        Checks.faultIs("splice 60 5;splice 60;", 12, 2, 2);
        Checks.faultIs("splice 60 5;end", 12, 2, 1);
        Checks.faultIs("splice 60 5;splice 60 5001;", 12, 3, 2);
        Checks.faultIs("splice 60 5;end 20001;", 12, 3, 1);
        Checks.faultIs("length 60;length 401", 10, 3, 1);
        Checks.faultIs("end 20001", 0, 3, 1);
        Checks.faultIs("splice 60 5;splice 60 5", 12, 4, 2);
        Checks.faultIs("end 5;end 5", 6, 4, 1);
    }

    private static void numbersOfFaults() {
        Checks.sentence("Texts", "The number of the fault is 0 for the word, 1 for its first number, and so on:"
                + " which one is missing or out of range");
        Checks.faultIs("x", 0, 1, 0);
        Checks.faultIs("connector", 0, 2, 1);
        Checks.faultIs("connector 60 ", 0, 2, 2);
        Checks.faultIs("connector 60 5000 -", 0, 2, 3);
        Checks.faultIs("connector 0 5001 0;", 0, 3, 1);
        Checks.faultIs("connector 60 5001 0;", 0, 3, 2);
        Checks.faultIs("connector 60 5000 0;", 0, 3, 3);
        Checks.faultIs("change 60 5;change 60 51;", 12, 3, 2);
    }

    private static void numbersOfWholeItems() {
        Checks.sentence("Texts", "(for 4 and 5 the number of all its numbers)");
        for (int word = 0; word < 6; word++) {
            String item = ITEMS[word];
            Checks.faultIs(item + item, item.length(), 4, NUMBERS[word]);
            Checks.faultIs(item.substring(0, item.length() - 1), 0, 5, NUMBERS[word]);
        }
    }

    private static void characters() {
        Checks.sentence("2", "`character`: its code, 32 to 126");
        Checks.sentence("2", "INVALID_ARGUMENT if character is out of range");
        Checks.onlyWithin("type", c -> new FiberTrace().type(c), 32, 126);
        FiberTrace x = new FiberTrace();
        for (int c = 32; c <= 126; c++) {
            Checks.due("type of " + c, x.type(c), c - 31);
        }
        Checks.due("type of 31", x.type(31), Checks.INVALID);
        Checks.due("length", x.count(18), 95);
    }

    private static void lengths() {
        Checks.sentence("2", "Returns the length of the text;");
        FiberTrace x = new FiberTrace();
        for (int length = 1; length <= 120; length++) {
            Checks.due("type", x.type('a'), length);
        }
        x.clearText();
        Checks.due("type then", x.type('a'), 1);
    }

    private static void limitOfCharacters() {
        Checks.sentence("2", "LIMIT_REACHED if the text has 120 characters.");
        FiberTrace x = Checks.typed("a".repeat(119));
        Checks.due("the 120th", x.type(32), 120);
        Checks.due("the 121st", x.type(32), Checks.LIMIT);
        Checks.due("once more", x.type(126), Checks.LIMIT);
        Checks.due("a wrong one", x.type(127), Checks.INVALID);
        Checks.due("clearText", x.clearText(), 120);
        Checks.due("type then", x.type(32), 1);
    }

    private static void clearedText() {
        Checks.sentence("3", "Empties the text.");
        FiberTrace x = Checks.typed("x");
        Checks.due("fault", x.fault(1), 1);
        x.clearText();
        Checks.due("length", x.count(18), 0);
        Checks.due("fault", x.fault(1), Checks.NOT_FOUND);
        Checks.write(x, "splice 60 5;");
        Checks.due("fault", x.fault(1), Checks.NOT_FOUND);
        x.clearText();
        Checks.due("lay", x.lay(), 0);
        Checks.write(x, "splice 60 5");
        Checks.due("nothing of it stands behind a shorter text", x.fault(1), 5);
        x.clearText();
        Checks.write(x, "splice 60");
        Checks.due("nor the number", x.fault(2), 2);
        x.clearText();
        Checks.write(x, "splic");
        Checks.due("nor the letter", x.fault(1), 1);
    }

    private static void lengthsOfClearedTexts() {
        Checks.sentence("3", "Returns the length it had.");
        for (int length : new int[] {0, 1, 119, 120}) {
            FiberTrace x = Checks.typed("a".repeat(length));
            Checks.due("clearText", x.clearText(), length);
            Checks.due("again", x.clearText(), 0);
        }
    }

    private static void faultProperties() {
        Checks.sentence("4", "`what`: 0: its index; 1: its reason; 2: its number");
        Checks.sentence("4", "INVALID_ARGUMENT if what is out of range");
        for (String text : new String[] {"", "end 5;", "end 5;splice 60 5001;"}) {
            Checks.onlyWithin("what of '" + text + "'", Checks.typed(text)::fault, 0, 2);
        }
        Checks.row("fault", Checks.typed("end 5;splice 60 5001;")::fault, -1, Checks.INVALID, 6, 3, 2, Checks.INVALID);
    }

    private static void noFault() {
        Checks.sentence("4", "NOT_FOUND if the text has no fault (also if it is empty).");
        for (String text : new String[] {"", "end 5;", longest()}) {
            FiberTrace x = Checks.typed(text);
            Checks.row("fault of '" + text + "'", x::fault, 0, Checks.NOT_FOUND, Checks.NOT_FOUND, Checks.NOT_FOUND);
        }
    }

    private static void textStays() {
        Checks.sentence("5", "Makes the link that of the text, which stays.");
        FiberTrace x = Checks.laid("length 60;splice 5 5;");
        Checks.due("length of the text", x.count(18), 21);
        x.removePart(0);
        Checks.due("lay again", x.lay(), 1);
        Checks.write(x, "splice 6 6;");
        Checks.due("lay with more", x.lay(), 2);
        Checks.due("place", x.part(1, 1), 6);
    }

    private static void numbersOfParts() {
        Checks.sentence("5", "Returns the number of parts;");
        Checks.due("of nothing", new FiberTrace().lay(), 0);
        Checks.due("of no part", Checks.typed("length 60;").lay(), 0);
        Checks.due("of one", Checks.typed("change 60 5;").lay(), 1);
        Checks.due("of ten", Checks.typed(longest()).lay(), 10);
    }

    private static void faultsAreNotLaid() {
        Checks.sentence("5", "NOT_POSSIBLE if the text has a fault.");
        FiberTrace x = Checks.laid("length 60;splice 5 5;");
        x.type('x');
        Checks.due("lay", x.lay(), Checks.NOT_POSSIBLE);
        Checks.due("length", x.count(11), 60);
        Checks.due("parts", x.count(14), 1);
        Checks.due("history", x.count(17), 1);
    }
}
