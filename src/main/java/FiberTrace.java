/**
 * An optical fiber trace reader. All rows are made in the constructors and used again,
 * so that no call makes an object.
 */
public final class FiberTrace {
    public static final int INVALID_ARGUMENT = -1000001;
    public static final int NOT_POSSIBLE = -1000002;
    public static final int LIMIT_REACHED = -1000003;
    public static final int NOT_FOUND = -1000004;

    private static final int SPLICE = 0;
    private static final int CONNECTOR = 1;
    private static final int CHANGE = 2;
    private static final int MAX_PARTS = 10;
    private static final int MIN_LENGTH = 50;
    private static final int MAX_LENGTH = 400;
    private static final int FIRST_LENGTH = 200;
    private static final int MAX_ATTENUATION = 50;
    private static final int FIRST_ATTENUATION = 10;
    private static final int MAX_REFLECTION = 20000;
    private static final int FIRST_END = 12000;

    private static final int WIDTH = 0;
    private static final int RECOVERY = 1;
    private static final int ECHO_LOSS = 2;
    private static final int NOISE = 3;
    private static final int PULSES = 4;
    private static final int SEED = 5;
    private static final int RISE = 6;
    private static final int STEP = 7;
    private static final int FLOOR = 8;
    private static final int TOLERANCE = 9;
    private static final int GHOST_LOSS = 10;
    private static final int SETTINGS = 11;
    private static final int[] LEAST_VALUES = {1, 100, 0, 0, 1, 0, 10, 5, 0, 0, 0};
    private static final int[] GREATEST_VALUES = {20, 5000, 40000, 400, 32, 65535, 5000, 2000, 40000, 20, 2000};
    private static final int[] FIRST_VALUES = {5, 1500, 9000, 0, 4, 1, 600, 60, 8000, 3, 150};
    private static final int MAX_WIDTH = 20;
    private static final int MAX_PULSES = 32;
    private static final int MAX_NOISE = 400;

    private static final int TAIL = 60;
    private static final int MAX_SAMPLES = MAX_LENGTH + TAIL;
    private static final int LAUNCH_LEVEL = 50000;
    private static final int END_LEVEL = 5000;
    private static final int MAX_DIFFERENCE = 50000;

    private static final int MAX_REFLECTIONS = MAX_PARTS + 1;
    private static final int MAX_GHOSTS = MAX_REFLECTIONS * (MAX_REFLECTIONS - 1) / 2;

    private static final int MAX_EVENTS = 30;
    private static final int PLAIN = 0;
    private static final int REFLECTIVE = 1;
    private static final int GHOST = 2;
    private static final int END = 3;
    private static final int NONE = -1;

    private static final int FOUND = 0;
    private static final int HIDDEN = 1;
    private static final int MISSED = 2;

    private static final int MAX_TEXT = 120;
    private static final int MAX_STATES = 5;
    private static final int MAX_KEPT = 3;

    private final State state;
    private final History history;
    private final LinkText text;
    private final KeptTraces keptTraces;
    private final Comparison comparison;
    private final Noise noise;
    private final Echoes echoes;
    private final Trace trace;
    private final Reading reading;
    private final int[] trialSettings;
    /** Whether echoes, trace and reading are those of the present state. */
    private boolean measured;

    public FiberTrace() {
        state = new State();
        history = new History();
        text = new LinkText();
        keptTraces = new KeptTraces();
        comparison = new Comparison();
        noise = new Noise();
        echoes = new Echoes();
        trace = new Trace();
        reading = new Reading();
        trialSettings = new int[SETTINGS];
        measured = false;
    }

    // ---- texts

    public int type(int character) {
        if (!isWithin(character, 32, 126)) {
            return INVALID_ARGUMENT;
        }
        if (text.size >= MAX_TEXT) {
            return LIMIT_REACHED;
        }
        return text.append(character);
    }

    public int clearText() {
        return text.empty();
    }

    public int fault(int what) {
        if (!isWithin(what, 0, 2)) {
            return INVALID_ARGUMENT;
        }
        text.read();
        if (text.reason == LinkText.NO_FAULT) {
            return NOT_FOUND;
        }
        switch (what) {
            case 0: return text.faultPlace;
            case 1: return text.reason;
            default: return text.faultNumber;
        }
    }

    public int lay() {
        text.read();
        if (text.reason != LinkText.NO_FAULT) {
            return NOT_POSSIBLE;
        }
        beginChange();
        state.link.copyFrom(text.link);
        return state.link.size;
    }

    // ---- the link and the settings

    public int addPart(int kind, int place, int loss, int reflection) {
        Link link = state.link;
        if (!isWithin(kind, SPLICE, CHANGE) || !link.placeFits(place)
                || !Link.lossFits(kind, loss) || !Link.reflectionFits(kind, reflection)) {
            return INVALID_ARGUMENT;
        }
        if (link.hasPartAt(place)) {
            return NOT_POSSIBLE;
        }
        if (link.size >= MAX_PARTS) {
            return LIMIT_REACHED;
        }
        beginChange();
        return link.insert(kind, place, loss, reflection);
    }

    public int removePart(int part) {
        if (!isWithin(part, 0, state.link.size - 1)) {
            return INVALID_ARGUMENT;
        }
        beginChange();
        return state.link.drop(part);
    }

    public int set(int what, int value) {
        if (!isWithin(what, 0, SETTINGS - 1)
                || !isWithin(value, at(LEAST_VALUES, what), at(GREATEST_VALUES, what))) {
            return INVALID_ARGUMENT;
        }
        beginChange();
        int previous = at(state.settings, what);
        put(state.settings, what, value);
        return previous;
    }

    public int undo() {
        if (history.size == 0) {
            return NOT_POSSIBLE;
        }
        measured = false;
        return history.restore(state);
    }

    public int count(int what) {
        if (isWithin(what, 0, SETTINGS - 1)) {
            return at(state.settings, what);
        }
        switch (what) {
            case 11: return state.link.length;
            case 12: return state.link.attenuation;
            case 13: return state.link.end;
            case 14: return state.link.size;
            case 15: return state.link.length + TAIL;
            case 16: return state.keptCount();
            case 17: return history.size;
            case 18: return text.size;
            default: return INVALID_ARGUMENT;
        }
    }

    public int part(int part, int what) {
        Link link = state.link;
        if (!isWithin(part, 0, link.size - 1) || !isWithin(what, 0, 5)) {
            return INVALID_ARGUMENT;
        }
        switch (what) {
            case 0: return at(link.kinds, part);
            case 1: return at(link.places, part);
            case 2: return at(link.losses, part);
            case 3: return at(link.reflections, part);
            default: break;
        }
        measure();
        if (what == 4) {
            return reading.findingOf(link, part);
        }
        return orNotFound(reading.witnessOf(link, part));
    }

    public int lineLoss(int place) {
        if (!isWithin(place, 0, state.link.length)) {
            return INVALID_ARGUMENT;
        }
        return state.link.lossUpTo(place);
    }

    // ---- the trace

    public int sample(int place, int what) {
        if (!isTracePlace(place) || !isWithin(what, 0, 3)) {
            return INVALID_ARGUMENT;
        }
        measure();
        switch (what) {
            case 0: return at(trace.samples, place);
            case 1: return at(trace.base, place);
            case 2: return at(trace.peaks, place);
            default: return at(trace.noise, place);
        }
    }

    public int echo(int index, int what) {
        if (index < 0 || !isWithin(what, 0, 3)) {
            return INVALID_ARGUMENT;
        }
        measure();
        if (index >= echoes.ghosts) {
            return NOT_FOUND;
        }
        switch (what) {
            case 0: return echoes.ghostPlace(index);
            case 1: return at(echoes.ghostHeights, index);
            case 2: return at(echoes.firsts, index);
            default: return at(echoes.seconds, index);
        }
    }

    public int pulsesFor(int limit) {
        if (!isWithin(limit, 0, MAX_NOISE)) {
            return INVALID_ARGUMENT;
        }
        for (int pulses = 1; pulses <= MAX_PULSES; pulses++) {
            if (isQuiet(pulses, limit)) {
                return pulses;
            }
        }
        return NOT_FOUND;
    }

    // ---- events

    public int events() {
        measure();
        return reading.size;
    }

    public int event(int event, int what) {
        measure();
        if (!isWithin(event, 0, reading.size - 1) || !isWithin(what, 0, 7)) {
            return INVALID_ARGUMENT;
        }
        switch (what) {
            case 0: return at(reading.begins, event);
            case 1: return at(reading.ends, event);
            case 2: return at(reading.losses, event);
            case 3: return at(reading.heights, event);
            case 4: return at(reading.kinds, event);
            case 5: return at(reading.sectionLosses, event);
            case 6: return orNotFound(at(reading.firstMakers, event));
            default: return orNotFound(at(reading.secondMakers, event));
        }
    }

    public int total(int what) {
        if (!isWithin(what, 0, 7)) {
            return INVALID_ARGUMENT;
        }
        measure();
        switch (what) {
            case 0: return sum(reading.losses, reading.size);
            case 1: return sum(reading.sectionLosses, reading.size);
            case 2: return reading.lossOfGhosts();
            case 3: return reading.countOf(PLAIN);
            case 4: return reading.countOf(REFLECTIVE);
            case 5: return reading.countOf(GHOST);
            case 6: return readLoss();
            default: return reading.countOf(END);
        }
    }

    public int eventAt(int place) {
        if (!isTracePlace(place)) {
            return INVALID_ARGUMENT;
        }
        measure();
        return orNotFound(reading.covering(place));
    }

    public int worst() {
        measure();
        return orNotFound(reading.greatestLoss());
    }

    public int findings(int what) {
        if (!isWithin(what, 0, 3)) {
            return INVALID_ARGUMENT;
        }
        measure();
        if (what == 3) {
            return reading.countUnexplained(state.link);
        }
        return reading.countFindings(state.link, what);
    }

    public int widthFor() {
        System.arraycopy(state.settings, 0, trialSettings, 0, SETTINGS);
        measured = false;
        for (int width = 1; width <= MAX_WIDTH; width++) {
            put(trialSettings, WIDTH, width);
            measureWith(trialSettings);
            if (reading.findsAll(state.link)) {
                return width;
            }
        }
        return NOT_FOUND;
    }

    // ---- kept traces

    public int keep() {
        measure();
        beginChange();
        keptTraces.store(state.keeps, trace);
        state.keeps++;
        return state.keptCount();
    }

    public int compare(int kept, int limit, int what) {
        if (!isWithin(kept, 0, state.keptCount() - 1) || !isWithin(limit, 0, MAX_DIFFERENCE)
                || !isWithin(what, 0, 3)) {
            return INVALID_ARGUMENT;
        }
        measure();
        comparison.make(trace, keptTraces, state.keeps - state.keptCount() + kept, limit);
        switch (what) {
            case 0: return orNotFound(comparison.firstPlace);
            case 1: return comparison.places;
            case 2: return comparison.greatest;
            default: return comparison.greatestPlace;
        }
    }

    private void beginChange() {
        history.record(state);
        measured = false;
    }

    private void measure() {
        if (!measured) {
            measureWith(state.settings);
            measured = true;
        }
    }

    private void measureWith(int[] settings) {
        echoes.find(state.link, at(settings, ECHO_LOSS));
        trace.make(state.link, settings, echoes, noise);
        reading.read(trace.samples, trace.size, settings);
        reading.findGhosts(at(settings, GHOST_LOSS));
    }

    private boolean isTracePlace(int place) {
        return isWithin(place, 0, state.link.length + TAIL - 1);
    }

    private boolean isQuiet(int pulses, int limit) {
        noise.begin(state.settings);
        int samples = state.link.length + TAIL;
        for (int x = 0; x < samples; x++) {
            if (Math.abs(noise.next(pulses)) > limit) {
                return false;
            }
        }
        return true;
    }

    private int readLoss() {
        if (reading.size == 0) {
            return 0;
        }
        return at(trace.samples, 0) - at(trace.samples, at(reading.ends, reading.size - 1));
    }

    private static int orNotFound(int number) {
        return number == NONE ? NOT_FOUND : number;
    }

    private static boolean isWithin(int value, int least, int greatest) {
        return value >= least && value <= greatest;
    }

    private static int at(int[] row, int index) {
        return row != null && index >= 0 && index < row.length ? row[index] : 0;
    }

    private static void put(int[] row, int index, int value) {
        if (row != null && index >= 0 && index < row.length) {
            row[index] = value;
        }
    }

    /** Makes room at index for one more value in a row that has used so many. */
    private static void insertInto(int[] row, int used, int index, int value) {
        for (int i = used; i > index; i--) {
            put(row, i, at(row, i - 1));
        }
        put(row, index, value);
    }

    private static void removeFrom(int[] row, int used, int index) {
        for (int i = index; i < used - 1; i++) {
            put(row, i, at(row, i + 1));
        }
    }

    private static int sum(int[] row, int used) {
        int sum = 0;
        for (int i = 0; i < used; i++) {
            sum += at(row, i);
        }
        return sum;
    }

    private static int quotient(int dividend, int divisor) {
        return divisor == 0 ? 0 : dividend / divisor;
    }

    /** The fiber with its parts, by ascending places. */
    private static final class Link {
        int length;
        int attenuation;
        int end;
        int size;
        final int[] kinds = new int[MAX_PARTS];
        final int[] places = new int[MAX_PARTS];
        final int[] losses = new int[MAX_PARTS];
        final int[] reflections = new int[MAX_PARTS];

        Link() {
            reset();
        }

        void reset() {
            length = FIRST_LENGTH;
            attenuation = FIRST_ATTENUATION;
            end = FIRST_END;
            size = 0;
        }

        void copyFrom(Link other) {
            length = other.length;
            attenuation = other.attenuation;
            end = other.end;
            size = other.size;
            System.arraycopy(other.kinds, 0, kinds, 0, MAX_PARTS);
            System.arraycopy(other.places, 0, places, 0, MAX_PARTS);
            System.arraycopy(other.losses, 0, losses, 0, MAX_PARTS);
            System.arraycopy(other.reflections, 0, reflections, 0, MAX_PARTS);
        }

        boolean placeFits(int place) {
            return isWithin(place, 1, length - 1);
        }

        static boolean lossFits(int kind, int loss) {
            switch (kind) {
                case SPLICE: return isWithin(loss, -500, 5000);
                case CONNECTOR: return isWithin(loss, 0, 5000);
                default: return isWithin(loss, 0, MAX_ATTENUATION);
            }
        }

        static boolean reflectionFits(int kind, int reflection) {
            return kind == CONNECTOR ? isWithin(reflection, 1, MAX_REFLECTION) : reflection == 0;
        }

        boolean hasPartAt(int place) {
            for (int i = 0; i < size; i++) {
                if (at(places, i) == place) {
                    return true;
                }
            }
            return false;
        }

        int insert(int kind, int place, int loss, int reflection) {
            int index = 0;
            while (index < size && at(places, index) < place) {
                index++;
            }
            insertInto(kinds, size, index, kind);
            insertInto(places, size, index, place);
            insertInto(losses, size, index, loss);
            insertInto(reflections, size, index, reflection);
            size++;
            return index;
        }

        int drop(int index) {
            removeFrom(kinds, size, index);
            removeFrom(places, size, index);
            removeFrom(losses, size, index);
            removeFrom(reflections, size, index);
            size--;
            return size;
        }

        /** A splice or a connector: what has a loss of its own and can be found. */
        boolean isJoint(int index) {
            return at(kinds, index) != CHANGE;
        }

        int attenuationUpTo(int place) {
            int sum = 0;
            int rate = attenuation;
            int from = 0;
            for (int i = 0; i < size && at(places, i) < place; i++) {
                if (at(kinds, i) == CHANGE) {
                    sum += rate * (at(places, i) - from);
                    from = at(places, i);
                    rate = at(losses, i);
                }
            }
            return sum + rate * (place - from);
        }

        int lossUpTo(int place) {
            int loss = attenuationUpTo(place);
            for (int i = 0; i < size; i++) {
                if (isJoint(i) && at(places, i) < place) {
                    loss += at(losses, i);
                }
            }
            return loss;
        }

        /** What the joints take at a place, where a pulse of this width spreads their losses. */
        int spreadLossAt(int place, int width) {
            int loss = 0;
            for (int i = 0; i < size && at(places, i) <= place; i++) {
                if (at(kinds, i) != CHANGE) {
                    int covered = place - at(places, i) + 1;
                    loss += covered >= width ? at(losses, i) : quotient(at(losses, i) * covered, width);
                }
            }
            return loss;
        }
    }

    /** What a change can change. */
    private static final class State {
        final Link link = new Link();
        final int[] settings = new int[SETTINGS];
        /** The calls of keep that lead to this state; the last of them are the kept traces. */
        int keeps;

        State() {
            System.arraycopy(FIRST_VALUES, 0, settings, 0, SETTINGS);
            keeps = 0;
        }

        void copyFrom(State other) {
            link.copyFrom(other.link);
            System.arraycopy(other.settings, 0, settings, 0, SETTINGS);
            keeps = other.keeps;
        }

        int keptCount() {
            return Math.min(keeps, MAX_KEPT);
        }
    }

    /** The states before the latest changes, in a ring. */
    private static final class History {
        private final State[] states = new State[MAX_STATES];
        private int next;
        int size;

        History() {
            for (int i = 0; i < MAX_STATES && i < states.length; i++) {
                states[i] = new State();
            }
            next = 0;
            size = 0;
        }

        void record(State state) {
            State slot = slotAt(next);
            if (slot != null) {
                slot.copyFrom(state);
            }
            next = (next + 1) % MAX_STATES;
            size = Math.min(size + 1, MAX_STATES);
        }

        int restore(State state) {
            next = (next + MAX_STATES - 1) % MAX_STATES;
            size--;
            State slot = slotAt(next);
            if (slot != null) {
                state.copyFrom(slot);
            }
            return size;
        }

        private State slotAt(int index) {
            return index >= 0 && index < states.length ? states[index] : null;
        }
    }

    /** The text and what it says as a link. */
    private static final class LinkText {
        static final int NO_FAULT = 0;
        private static final int NO_WORD = 1;
        private static final int NUMBER_MISSING = 2;
        private static final int OUT_OF_RANGE = 3;
        private static final int NOT_ALLOWED = 4;
        private static final int NOT_CLOSED = 5;

        private static final int WORDS = 6;
        private static final int LENGTH_WORD = 0;
        private static final int ATTENUATION_WORD = 1;
        private static final int END_WORD = 2;
        /** The words of the parts follow one another as the kinds of the parts do. */
        private static final int FIRST_PART_WORD = 3;
        private static final int MAX_NUMBERS = 3;
        private static final int MAX_DIGITS = 5;

        private final int[] signs = new int[MAX_TEXT];
        private final int[] numbers = new int[MAX_NUMBERS];
        private final int[] told = new int[FIRST_PART_WORD];
        final Link link = new Link();
        int size;
        int reason;
        int faultPlace;
        int faultNumber;
        private int position;

        int append(int sign) {
            put(signs, size, sign);
            size++;
            return size;
        }

        int empty() {
            int previous = size;
            size = 0;
            return previous;
        }

        void read() {
            link.reset();
            for (int word = 0; word < FIRST_PART_WORD; word++) {
                put(told, word, 0);
            }
            reason = NO_FAULT;
            position = 0;
            for (int items = 0; items < MAX_TEXT && position < size && reason == NO_FAULT; items++) {
                readItem();
            }
        }

        private void readItem() {
            int begin = position;
            int word = wordAt(begin);
            int wanted = numbersOf(word);
            if (word == NONE) {
                blame(begin, NO_WORD, 0);
                return;
            }
            position += nameOf(word).length();
            int missing = readNumbers(wanted);
            int outside = firstOutside(word, wanted);
            if (missing != NONE) {
                blame(begin, NUMBER_MISSING, missing + 1);
            } else if (outside != NONE) {
                blame(begin, OUT_OF_RANGE, outside + 1);
            } else if (!isAllowed(word)) {
                blame(begin, NOT_ALLOWED, wanted);
            } else if (signAt(position) != ';') {
                blame(begin, NOT_CLOSED, wanted);
            } else {
                position++;
                build(word);
            }
        }

        private void blame(int place, int why, int number) {
            faultPlace = place;
            reason = why;
            faultNumber = number;
        }

        private int signAt(int index) {
            return index < size ? at(signs, index) : 0;
        }

        private static String nameOf(int word) {
            switch (word) {
                case LENGTH_WORD: return "length";
                case ATTENUATION_WORD: return "attenuation";
                case END_WORD: return "end";
                case FIRST_PART_WORD + SPLICE: return "splice";
                case FIRST_PART_WORD + CONNECTOR: return "connector";
                default: return "change";
            }
        }

        private static int numbersOf(int word) {
            if (word < FIRST_PART_WORD) {
                return 1;
            }
            return word == FIRST_PART_WORD + CONNECTOR ? 3 : 2;
        }

        /** A word is a whole run of letters: a name with letters behind it is no such word. */
        private int wordAt(int begin) {
            for (int word = 0; word < WORDS; word++) {
                String name = nameOf(word);
                if (standsAt(name, begin) && !isLetter(signAt(begin + name.length()))) {
                    return word;
                }
            }
            return NONE;
        }

        private static boolean isLetter(int sign) {
            return isWithin(sign, 'a', 'z') || isWithin(sign, 'A', 'Z');
        }

        private boolean standsAt(String name, int begin) {
            for (int i = 0; i < name.length(); i++) {
                if (signAt(begin + i) != name.charAt(i)) {
                    return false;
                }
            }
            return true;
        }

        /** Answers which number is missing, or NONE. */
        private int readNumbers(int wanted) {
            for (int i = 0; i < wanted; i++) {
                if (!readNumber(i)) {
                    return i;
                }
            }
            return NONE;
        }

        private boolean readNumber(int index) {
            if (signAt(position) != ' ') {
                return false;
            }
            position++;
            boolean negative = signAt(position) == '-';
            if (negative) {
                position++;
            }
            int value = 0;
            int digits = 0;
            while (digits < MAX_DIGITS && isWithin(signAt(position), '0', '9')) {
                value = value * 10 + signAt(position) - '0';
                position++;
                digits++;
            }
            put(numbers, index, negative ? -value : value);
            return digits > 0;
        }

        private int firstOutside(int word, int wanted) {
            for (int i = 0; i < wanted; i++) {
                if (!isInRange(word, i, at(numbers, i))) {
                    return i;
                }
            }
            return NONE;
        }

        private boolean isInRange(int word, int index, int number) {
            switch (word) {
                case LENGTH_WORD: return isWithin(number, MIN_LENGTH, MAX_LENGTH);
                case ATTENUATION_WORD: return isWithin(number, 0, MAX_ATTENUATION);
                case END_WORD: return isWithin(number, 0, MAX_REFLECTION);
                default: break;
            }
            int kind = word - FIRST_PART_WORD;
            switch (index) {
                case 0: return link.placeFits(number);
                case 1: return Link.lossFits(kind, number);
                default: return Link.reflectionFits(kind, number);
            }
        }

        private boolean isAllowed(int word) {
            if (word < FIRST_PART_WORD) {
                return at(told, word) == 0 && link.size == 0;
            }
            return !link.hasPartAt(at(numbers, 0)) && link.size < MAX_PARTS;
        }

        private void build(int word) {
            int number = at(numbers, 0);
            put(told, word, 1);
            switch (word) {
                case LENGTH_WORD: link.length = number; break;
                case ATTENUATION_WORD: link.attenuation = number; break;
                case END_WORD: link.end = number; break;
                default:
                    int kind = word - FIRST_PART_WORD;
                    link.insert(kind, number, at(numbers, 1), kind == CONNECTOR ? at(numbers, 2) : 0);
                    break;
            }
        }
    }

    /** The draws of the noise, one place after the other. */
    private static final class Noise {
        private int z;
        private int height;

        void begin(int[] settings) {
            z = at(settings, SEED);
            height = at(settings, NOISE);
        }

        int next(int pulses) {
            if (height == 0) {
                return 0;
            }
            int span = 2 * height + 1;
            int sum = 0;
            for (int i = 0; i < pulses; i++) {
                z = (z * 75 + 74) % 65537;
                sum += (span == 0 ? 0 : z % span) - height;
            }
            return quotient(sum, pulses);
        }
    }

    /** The reflections of a link, and the ghosts that they make. */
    private static final class Echoes {
        final int[] places = new int[MAX_REFLECTIONS];
        final int[] heights = new int[MAX_REFLECTIONS];
        int reflections;
        /** The places of the two reflections of each ghost. */
        final int[] firsts = new int[MAX_GHOSTS];
        final int[] seconds = new int[MAX_GHOSTS];
        final int[] ghostHeights = new int[MAX_GHOSTS];
        int ghosts;

        void find(Link link, int echoLoss) {
            findReflections(link);
            ghosts = 0;
            for (int i = 0; i < reflections; i++) {
                for (int j = i + 1; j < reflections; j++) {
                    int height = (at(heights, i) + at(heights, j)) / 2 - echoLoss;
                    if (height > 0) {
                        addGhost(at(places, i), at(places, j), height);
                    }
                }
            }
        }

        private void findReflections(Link link) {
            reflections = 0;
            for (int i = 0; i < link.size; i++) {
                if (at(link.kinds, i) == CONNECTOR) {
                    addReflection(at(link.places, i), at(link.reflections, i));
                }
            }
            if (link.end > 0) {
                addReflection(link.length, link.end);
            }
        }

        private void addReflection(int place, int height) {
            put(places, reflections, place);
            put(heights, reflections, height);
            reflections++;
        }

        /** Pairs come by ascending first places, so that a later ghost stands behind an equal one. */
        private void addGhost(int first, int second, int height) {
            int index = ghosts;
            while (index > 0 && ghostPlace(index - 1) > 2 * second - first) {
                index--;
            }
            insertInto(firsts, ghosts, index, first);
            insertInto(seconds, ghosts, index, second);
            insertInto(ghostHeights, ghosts, index, height);
            ghosts++;
        }

        int ghostPlace(int ghost) {
            return 2 * at(seconds, ghost) - at(firsts, ghost);
        }
    }

    /** The samples and what they are made of. */
    private static final class Trace {
        final int[] base = new int[MAX_SAMPLES];
        final int[] peaks = new int[MAX_SAMPLES];
        final int[] noise = new int[MAX_SAMPLES];
        final int[] samples = new int[MAX_SAMPLES];
        int size;
        private int drawnSize;
        private int drawnHeight;
        private int drawnPulses;
        private int drawnSeed;

        void make(Link link, int[] settings, Echoes echoes, Noise source) {
            size = link.length + TAIL;
            makeBase(link, at(settings, WIDTH));
            makePeaks(echoes, at(settings, WIDTH), at(settings, RECOVERY));
            if (!isDrawnFor(settings)) {
                draw(settings, source);
            }
            for (int x = 0; x < size; x++) {
                put(samples, x, at(base, x) + at(peaks, x) + at(noise, x));
            }
        }

        private void makeBase(Link link, int width) {
            for (int x = 0; x < size; x++) {
                int level = LAUNCH_LEVEL - link.attenuationUpTo(x) - link.spreadLossAt(x, width);
                put(base, x, x < link.length ? level : END_LEVEL);
            }
        }

        private void makePeaks(Echoes echoes, int width, int recovery) {
            for (int x = 0; x < size; x++) {
                put(peaks, x, 0);
            }
            for (int i = 0; i < echoes.reflections; i++) {
                raise(at(echoes.places, i), at(echoes.heights, i), width, recovery);
            }
            for (int i = 0; i < echoes.ghosts; i++) {
                raise(echoes.ghostPlace(i), at(echoes.ghostHeights, i), width, recovery);
            }
        }

        private void raise(int place, int height, int width, int recovery) {
            int left = height;
            for (int x = place; x < size && left > 0; x++) {
                left = x < place + width ? height : height - recovery * (x - place - width + 1);
                put(peaks, x, Math.max(left, at(peaks, x)));
            }
        }

        /** The noise is dear to draw, and most changes leave it as it is. */
        private boolean isDrawnFor(int[] settings) {
            return drawnSize == size && drawnHeight == at(settings, NOISE)
                    && drawnPulses == at(settings, PULSES) && drawnSeed == at(settings, SEED);
        }

        private void draw(int[] settings, Noise source) {
            drawnSize = size;
            drawnHeight = at(settings, NOISE);
            drawnPulses = at(settings, PULSES);
            drawnSeed = at(settings, SEED);
            source.begin(settings);
            for (int x = 0; x < size; x++) {
                put(noise, x, source.next(drawnPulses));
            }
        }
    }

    /** The events that the reader finds, and what they tell of the parts. */
    private static final class Reading {
        final int[] begins = new int[MAX_EVENTS];
        final int[] ends = new int[MAX_EVENTS];
        final int[] losses = new int[MAX_EVENTS];
        final int[] heights = new int[MAX_EVENTS];
        final int[] kinds = new int[MAX_EVENTS];
        final int[] sectionLosses = new int[MAX_EVENTS];
        final int[] firstMakers = new int[MAX_EVENTS];
        final int[] secondMakers = new int[MAX_EVENTS];
        int size;
        private int tolerance;

        void read(int[] values, int places, int[] settings) {
            size = 0;
            tolerance = at(settings, TOLERANCE);
            boolean ended = false;
            for (int x = 1; x < places && size < MAX_EVENTS && !ended; x++) {
                int rise = at(values, x) - at(values, x - 1);
                boolean reflective = rise >= at(settings, RISE);
                if (reflective || -rise > at(settings, STEP)) {
                    int least = reflective ? x + at(settings, WIDTH) - 1 : x;
                    int end = endFrom(values, places, least, at(settings, STEP));
                    ended = at(values, end) < at(settings, FLOOR);
                    addEvent(values, x, end, reflective);
                    put(kinds, size - 1, ended ? END : at(kinds, size - 1));
                    x = Math.max(x, end);
                }
            }
        }

        private static int endFrom(int[] values, int places, int least, int step) {
            for (int y = least; y < places - 1; y++) {
                if (Math.abs(at(values, y + 1) - at(values, y)) <= step) {
                    return y;
                }
            }
            return places - 1;
        }

        private void addEvent(int[] values, int begin, int end, boolean reflective) {
            int ahead = at(values, begin - 1);
            int sectionBegin = size == 0 ? 0 : at(ends, size - 1);
            put(begins, size, begin);
            put(ends, size, end);
            put(losses, size, ahead - at(values, end));
            put(heights, size, reflective ? greatestOf(values, begin, end) - ahead : 0);
            put(kinds, size, reflective ? REFLECTIVE : PLAIN);
            put(sectionLosses, size, at(values, sectionBegin) - ahead);
            put(firstMakers, size, NONE);
            put(secondMakers, size, NONE);
            size++;
        }

        private static int greatestOf(int[] values, int begin, int end) {
            int greatest = at(values, begin);
            for (int x = begin + 1; x <= end; x++) {
                greatest = Math.max(greatest, at(values, x));
            }
            return greatest;
        }

        /** In the order of the events, for a ghost makes no ghosts. */
        void findGhosts(int ghostLoss) {
            for (int i = 0; i < size; i++) {
                if (at(kinds, i) == REFLECTIVE && Math.abs(at(losses, i)) <= ghostLoss) {
                    findMakers(i);
                }
            }
        }

        private void findMakers(int event) {
            for (int i = 0; i < event; i++) {
                for (int j = i + 1; j < event; j++) {
                    if (makeGhost(i, j, event)) {
                        put(kinds, event, GHOST);
                        put(firstMakers, event, i);
                        put(secondMakers, event, j);
                        return;
                    }
                }
            }
        }

        private boolean makeGhost(int i, int j, int event) {
            int place = 2 * at(begins, j) - at(begins, i);
            return at(kinds, i) == REFLECTIVE && at(kinds, j) == REFLECTIVE
                    && Math.abs(place - at(begins, event)) <= tolerance;
        }

        private boolean isNear(int place, int other) {
            return Math.abs(place - other) <= tolerance;
        }

        int lossOfGhosts() {
            int sum = 0;
            for (int i = 0; i < size; i++) {
                sum += at(kinds, i) == GHOST ? at(losses, i) : 0;
            }
            return sum;
        }

        int countOf(int kind) {
            int count = 0;
            for (int i = 0; i < size; i++) {
                count += at(kinds, i) == kind ? 1 : 0;
            }
            return count;
        }

        int covering(int place) {
            for (int i = 0; i < size; i++) {
                if (isWithin(place, at(begins, i), at(ends, i))) {
                    return i;
                }
            }
            return NONE;
        }

        int greatestLoss() {
            int best = NONE;
            for (int i = 0; i < size; i++) {
                if (at(kinds, i) != END && (best == NONE || at(losses, i) > at(losses, best))) {
                    best = i;
                }
            }
            return best;
        }

        private int finderOf(int place) {
            for (int i = 0; i < size; i++) {
                if (at(kinds, i) != GHOST && isNear(at(begins, i), place)) {
                    return i;
                }
            }
            return NONE;
        }

        int findingOf(Link link, int part) {
            int place = at(link.places, part);
            if (!link.isJoint(part)) {
                return MISSED;
            }
            if (finderOf(place) != NONE) {
                return FOUND;
            }
            return covering(place) != NONE ? HIDDEN : MISSED;
        }

        /** Answers the event by which a part is found or hidden, or NONE. */
        int witnessOf(Link link, int part) {
            int place = at(link.places, part);
            switch (findingOf(link, part)) {
                case FOUND: return finderOf(place);
                case HIDDEN: return covering(place);
                default: return NONE;
            }
        }

        int countFindings(Link link, int finding) {
            int count = 0;
            for (int i = 0; i < link.size; i++) {
                count += link.isJoint(i) && findingOf(link, i) == finding ? 1 : 0;
            }
            return count;
        }

        boolean findsAll(Link link) {
            return countFindings(link, HIDDEN) == 0 && countFindings(link, MISSED) == 0;
        }

        int countUnexplained(Link link) {
            int count = 0;
            for (int i = 0; i < size; i++) {
                boolean claims = at(kinds, i) == PLAIN || at(kinds, i) == REFLECTIVE;
                count += claims && !isNearJoint(link, at(begins, i)) ? 1 : 0;
            }
            return count;
        }

        private boolean isNearJoint(Link link, int place) {
            for (int i = 0; i < link.size; i++) {
                if (link.isJoint(i) && isNear(at(link.places, i), place)) {
                    return true;
                }
            }
            return false;
        }
    }

    /**
     * The traces that are kept, told by the number of their keep. The present state and its history
     * reach back at most the kept ones and a keep for each state, so that older rows are free.
     */
    private static final class KeptTraces {
        private static final int ROWS = MAX_KEPT + MAX_STATES;
        private final int[] samples = new int[ROWS * MAX_SAMPLES];
        private final int[] sizes = new int[ROWS];

        void store(int number, Trace trace) {
            int row = Math.floorMod(number, ROWS);
            put(sizes, row, trace.size);
            for (int x = 0; x < trace.size; x++) {
                put(samples, row * MAX_SAMPLES + x, at(trace.samples, x));
            }
        }

        int sizeOf(int number) {
            return at(sizes, Math.floorMod(number, ROWS));
        }

        int valueAt(int number, int place) {
            return at(samples, Math.floorMod(number, ROWS) * MAX_SAMPLES + place);
        }
    }

    /** Where and how much the present trace differs from a kept one. */
    private static final class Comparison {
        int firstPlace;
        int places;
        int greatest;
        int greatestPlace;

        void make(Trace trace, KeptTraces kept, int number, int limit) {
            firstPlace = NONE;
            places = 0;
            greatest = 0;
            greatestPlace = 0;
            int shared = Math.min(trace.size, kept.sizeOf(number));
            for (int x = 0; x < shared; x++) {
                note(x, Math.abs(at(trace.samples, x) - kept.valueAt(number, x)), limit);
            }
        }

        private void note(int place, int difference, int limit) {
            if (difference > limit) {
                firstPlace = firstPlace == NONE ? place : firstPlace;
                places++;
            }
            if (difference > greatest) {
                greatest = difference;
                greatestPlace = place;
            }
        }
    }
}
