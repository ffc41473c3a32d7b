import java.util.ArrayList;
import java.util.Comparator;
import java.util.List;

/** The document, written down as directly as it can be and computed anew for every question. */
final class Model {
    static final int INVALID = -1000001;
    static final int NOT_POSSIBLE = -1000002;
    static final int LIMIT = -1000003;
    static final int NOT_FOUND = -1000004;
    static final int[] LEAST = {1, 100, 0, 0, 1, 0, 10, 5, 0, 0, 0};
    static final int[] GREATEST = {20, 5000, 40000, 400, 32, 65535, 5000, 2000, 40000, 20, 2000};

    record Part(int kind, int place, int loss, int reflection) { }

    record Peak(int place, int height) { }

    record Ghost(int place, int height, int first, int second) { }

    record Event(int begin, int end, int loss, int height, int kind, int section, int i, int j) { }

    record Fault(int index, int reason, int number) { }

    /** Never changed after it has been made. */
    record World(int length, int attenuation, int end, List<Part> parts, List<Integer> settings, List<int[]> kept) {
        World withParts(List<Part> other) {
            List<Part> sorted = new ArrayList<>(other);
            sorted.sort(Comparator.comparingInt(Part::place));
            return new World(length, attenuation, end, List.copyOf(sorted), settings, kept);
        }

        World withSetting(int what, int value) {
            List<Integer> other = new ArrayList<>(settings);
            other.set(what, value);
            return new World(length, attenuation, end, parts, List.copyOf(other), kept);
        }

        int samples() {
            return length + 60;
        }
    }

    World world = new World(200, 10, 12000, List.of(),
            List.of(5, 1500, 9000, 0, 4, 1, 600, 60, 8000, 3, 150), List.of());
    final List<World> history = new ArrayList<>();
    String text = "";

    private void change(World next) {
        history.add(world);
        if (history.size() == 6) {
            history.remove(0);
        }
        world = next;
    }

    static boolean in(int value, int least, int greatest) {
        return least <= value && value <= greatest;
    }

    // ---- the trace

    static int attenuationAt(World w, int unit) {
        int rate = w.attenuation();
        for (Part p : w.parts()) {
            if (p.kind() == 2 && p.place() <= unit) {
                rate = p.loss();
            }
        }
        return rate;
    }

    static int base(World w, int x) {
        if (x >= w.length()) {
            return 5000;
        }
        int width = w.settings().get(0);
        int level = 50000;
        for (int unit = 0; unit < x; unit++) {
            level -= attenuationAt(w, unit);
        }
        for (Part p : w.parts()) {
            if (p.kind() != 2 && p.place() <= x) {
                int n = x - p.place() + 1;
                level -= n >= width ? p.loss() : p.loss() * n / width;
            }
        }
        return level;
    }

    static List<Peak> reflections(World w) {
        List<Peak> list = new ArrayList<>();
        for (Part p : w.parts()) {
            if (p.kind() == 1) {
                list.add(new Peak(p.place(), p.reflection()));
            }
        }
        if (w.end() > 0) {
            list.add(new Peak(w.length(), w.end()));
        }
        return list;
    }

    static List<Ghost> ghosts(World w) {
        List<Ghost> list = new ArrayList<>();
        for (Peak p : reflections(w)) {
            for (Peak q : reflections(w)) {
                int height = (p.height() + q.height()) / 2 - w.settings().get(2);
                if (p.place() < q.place() && height > 0) {
                    list.add(new Ghost(2 * q.place() - p.place(), height, p.place(), q.place()));
                }
            }
        }
        list.sort(Comparator.comparingInt(Ghost::place).thenComparingInt(Ghost::first));
        return list;
    }

    static int peakOf(World w, int p, int h, int x) {
        int width = w.settings().get(0);
        if (x < p) {
            return 0;
        }
        return x < p + width ? h : Math.max(0, h - w.settings().get(1) * (x - p - width + 1));
    }

    static int peak(World w, int x, List<Ghost> ghosts, List<Peak> reflections) {
        int peak = 0;
        for (Peak p : reflections) {
            peak = Math.max(peak, peakOf(w, p.place(), p.height(), x));
        }
        for (Ghost g : ghosts) {
            peak = Math.max(peak, peakOf(w, g.place(), g.height(), x));
        }
        return peak;
    }

    static int[] noise(World w) {
        int a = w.settings().get(3);
        int pulses = w.settings().get(4);
        long z = w.settings().get(5);
        int[] noise = new int[w.samples()];
        for (int x = 0; a > 0 && x < noise.length; x++) {
            int sum = 0;
            for (int i = 0; i < pulses; i++) {
                z = (z * 75 + 74) % 65537;
                sum += (int) (z % (2 * a + 1)) - a;
            }
            noise[x] = sum / pulses;
        }
        return noise;
    }

    static int[] trace(World w) {
        int[] v = noise(w);
        List<Ghost> ghosts = ghosts(w);
        List<Peak> reflections = reflections(w);
        for (int x = 0; x < v.length; x++) {
            v[x] += base(w, x) + peak(w, x, ghosts, reflections);
        }
        return v;
    }

    // ---- events

    static List<Event> read(World w) {
        int[] v = trace(w);
        int rise = w.settings().get(6);
        int step = w.settings().get(7);
        int floor = w.settings().get(8);
        List<Event> list = new ArrayList<>();
        int x = 1;
        while (x < v.length && list.size() < 30) {
            boolean reflective = v[x] - v[x - 1] >= rise;
            if (!reflective && v[x - 1] - v[x] <= step) {
                x++;
                continue;
            }
            int y = x;
            while (y < v.length - 1
                    && (Math.abs(v[y + 1] - v[y]) > step || reflective && y < x + w.settings().get(0) - 1)) {
                y++;
            }
            int height = 0;
            for (int k = x; reflective && k <= y; k++) {
                height = k == x ? v[k] - v[x - 1] : Math.max(height, v[k] - v[x - 1]);
            }
            int from = list.isEmpty() ? 0 : list.get(list.size() - 1).end();
            int loss = v[x - 1] - v[y];
            int section = v[from] - v[x - 1];
            boolean ended = v[y] < floor;
            int kind = ended ? 3 : reflective ? 1 : 0;
            int makerI = -1;
            int makerJ = -1;
            if (kind == 1 && Math.abs(loss) <= w.settings().get(10)) {
                for (int i = list.size() - 1; i >= 0; i--) {
                    for (int j = list.size() - 1; j > i; j--) {
                        if (list.get(i).kind() == 1 && list.get(j).kind() == 1
                                && Math.abs(2 * list.get(j).begin() - list.get(i).begin() - x) <= w.settings().get(9)) {
                            kind = 2;
                            makerI = i;
                            makerJ = j;
                        }
                    }
                }
            }
            list.add(new Event(x, y, loss, height, kind, section, makerI, makerJ));
            if (ended) {
                break;
            }
            x = y + 1;
        }
        return list;
    }

    /** Two numbers: 0 found, 1 hidden, 2 missed; the event, or -1. */
    static int[] finding(World w, List<Event> events, Part part) {
        if (part.kind() == 2) {
            return new int[] {2, -1};
        }
        for (Event e : events) {
            if (e.kind() != 2 && Math.abs(e.begin() - part.place()) <= w.settings().get(9)) {
                return new int[] {0, events.indexOf(e)};
            }
        }
        for (Event e : events) {
            if (e.begin() <= part.place() && part.place() <= e.end()) {
                return new int[] {1, events.indexOf(e)};
            }
        }
        return new int[] {2, -1};
    }

    // ---- the text

    private record Laid(World world, Fault fault) { }

    private Laid readText() {
        String[] words = {"length", "attenuation", "end", "splice", "connector", "change"};
        int[] wanted = {1, 1, 1, 2, 3, 2};
        int[] values = {200, 10, 12000};
        boolean[] told = new boolean[3];
        List<Part> parts = new ArrayList<>();
        int at = 0;
        while (at < text.length()) {
            String letters = text.substring(at).split("[^A-Za-z]", 2)[0];
            int word = List.of(words).indexOf(letters);
            if (word < 0) {
                return new Laid(null, new Fault(at, 1, 0));
            }
            int p = at + words[word].length();
            int[] n = new int[3];
            for (int k = 0; k < wanted[word]; k++) {
                java.util.regex.Matcher m = java.util.regex.Pattern.compile(" (-?[0-9]{1,5})").matcher(text);
                m.region(p, text.length());
                if (!m.lookingAt()) {
                    return new Laid(null, new Fault(at, 2, k + 1));
                }
                n[k] = Integer.parseInt(m.group(1));
                p = m.end();
            }
            int[][] ranges = switch (word) {
                case 0 -> new int[][] {{50, 400}};
                case 1 -> new int[][] {{0, 50}};
                case 2 -> new int[][] {{0, 20000}};
                case 3 -> new int[][] {{1, values[0] - 1}, {-500, 5000}};
                case 4 -> new int[][] {{1, values[0] - 1}, {0, 5000}, {1, 20000}};
                default -> new int[][] {{1, values[0] - 1}, {0, 50}};
            };
            for (int k = 0; k < wanted[word]; k++) {
                if (!in(n[k], ranges[k][0], ranges[k][1])) {
                    return new Laid(null, new Fault(at, 3, k + 1));
                }
            }
            boolean bad = word < 3 ? told[word] || !parts.isEmpty()
                    : parts.size() == 10 || parts.stream().anyMatch(q -> q.place() == n[0]);
            if (bad) {
                return new Laid(null, new Fault(at, 4, wanted[word]));
            }
            if (p >= text.length() || text.charAt(p) != ';') {
                return new Laid(null, new Fault(at, 5, wanted[word]));
            }
            if (word < 3) {
                told[word] = true;
                values[word] = n[0];
            } else {
                parts.add(new Part(word - 3, n[0], n[1], n[2]));
            }
            at = p + 1;
        }
        World laid = new World(values[0], values[1], values[2], List.of(), world.settings(), world.kept());
        return new Laid(laid.withParts(parts), null);
    }

    // ---- the face

    int type(int c) {
        if (!in(c, 32, 126)) {
            return INVALID;
        }
        if (text.length() == 120) {
            return LIMIT;
        }
        text += (char) c;
        return text.length();
    }

    int clearText() {
        int n = text.length();
        text = "";
        return n;
    }

    int fault(int what) {
        Fault fault = readText().fault();
        if (!in(what, 0, 2)) {
            return INVALID;
        }
        if (fault == null) {
            return NOT_FOUND;
        }
        return what == 0 ? fault.index() : what == 1 ? fault.reason() : fault.number();
    }

    int lay() {
        Laid laid = readText();
        if (laid.fault() != null) {
            return NOT_POSSIBLE;
        }
        change(laid.world());
        return world.parts().size();
    }

    int addPart(int kind, int place, int loss, int reflection) {
        boolean fits = switch (kind) {
            case 0 -> in(loss, -500, 5000) && reflection == 0;
            case 1 -> in(loss, 0, 5000) && in(reflection, 1, 20000);
            case 2 -> in(loss, 0, 50) && reflection == 0;
            default -> false;
        };
        if (!fits || !in(place, 1, world.length() - 1)) {
            return INVALID;
        }
        if (world.parts().stream().anyMatch(p -> p.place() == place)) {
            return NOT_POSSIBLE;
        }
        if (world.parts().size() == 10) {
            return LIMIT;
        }
        List<Part> parts = new ArrayList<>(world.parts());
        Part part = new Part(kind, place, loss, reflection);
        parts.add(part);
        change(world.withParts(parts));
        return world.parts().indexOf(part);
    }

    int removePart(int part) {
        if (!in(part, 0, world.parts().size() - 1)) {
            return INVALID;
        }
        List<Part> parts = new ArrayList<>(world.parts());
        parts.remove(part);
        change(world.withParts(parts));
        return parts.size();
    }

    int set(int what, int value) {
        if (!in(what, 0, 10) || !in(value, LEAST[what], GREATEST[what])) {
            return INVALID;
        }
        int previous = world.settings().get(what);
        change(world.withSetting(what, value));
        return previous;
    }

    int undo() {
        if (history.isEmpty()) {
            return NOT_POSSIBLE;
        }
        world = history.remove(history.size() - 1);
        return history.size();
    }

    int count(int what) {
        if (in(what, 0, 10)) {
            return world.settings().get(what);
        }
        return switch (what) {
            case 11 -> world.length();
            case 12 -> world.attenuation();
            case 13 -> world.end();
            case 14 -> world.parts().size();
            case 15 -> world.samples();
            case 16 -> world.kept().size();
            case 17 -> history.size();
            case 18 -> text.length();
            default -> INVALID;
        };
    }

    int part(int part, int what) {
        if (!in(part, 0, world.parts().size() - 1) || !in(what, 0, 5)) {
            return INVALID;
        }
        Part p = world.parts().get(part);
        int[] finding = finding(world, read(world), p);
        return switch (what) {
            case 0 -> p.kind();
            case 1 -> p.place();
            case 2 -> p.loss();
            case 3 -> p.reflection();
            case 4 -> finding[0];
            default -> finding[1] < 0 ? NOT_FOUND : finding[1];
        };
    }

    int lineLoss(int place) {
        if (!in(place, 0, world.length())) {
            return INVALID;
        }
        int loss = 0;
        for (int unit = 0; unit < place; unit++) {
            loss += attenuationAt(world, unit);
        }
        for (Part p : world.parts()) {
            loss += p.kind() != 2 && p.place() < place ? p.loss() : 0;
        }
        return loss;
    }

    int sample(int place, int what) {
        if (!in(place, 0, world.length() + 59) || !in(what, 0, 3)) {
            return INVALID;
        }
        return switch (what) {
            case 0 -> trace(world)[place];
            case 1 -> base(world, place);
            case 2 -> peak(world, place, ghosts(world), reflections(world));
            default -> noise(world)[place];
        };
    }

    int echo(int index, int what) {
        if (index < 0 || !in(what, 0, 3)) {
            return INVALID;
        }
        List<Ghost> ghosts = ghosts(world);
        if (index >= ghosts.size()) {
            return NOT_FOUND;
        }
        Ghost g = ghosts.get(index);
        return what == 0 ? g.place() : what == 1 ? g.height() : what == 2 ? g.first() : g.second();
    }

    int pulsesFor(int limit) {
        if (!in(limit, 0, 400)) {
            return INVALID;
        }
        for (int pulses = 1; pulses <= 32; pulses++) {
            int greatest = 0;
            for (int n : noise(world.withSetting(4, pulses))) {
                greatest = Math.max(greatest, Math.abs(n));
            }
            if (greatest <= limit) {
                return pulses;
            }
        }
        return NOT_FOUND;
    }

    int events() {
        return read(world).size();
    }

    int event(int event, int what) {
        List<Event> events = read(world);
        if (!in(event, 0, events.size() - 1) || !in(what, 0, 7)) {
            return INVALID;
        }
        Event e = events.get(event);
        return switch (what) {
            case 0 -> e.begin();
            case 1 -> e.end();
            case 2 -> e.loss();
            case 3 -> e.height();
            case 4 -> e.kind();
            case 5 -> e.section();
            case 6 -> e.kind() == 2 ? e.i() : NOT_FOUND;
            default -> e.kind() == 2 ? e.j() : NOT_FOUND;
        };
    }

    int total(int what) {
        List<Event> events = read(world);
        int[] v = trace(world);
        return switch (what) {
            case 0 -> events.stream().mapToInt(Event::loss).sum();
            case 1 -> events.stream().mapToInt(Event::section).sum();
            case 2 -> events.stream().filter(e -> e.kind() == 2).mapToInt(Event::loss).sum();
            case 3, 4, 5 -> (int) events.stream().filter(e -> e.kind() == what - 3).count();
            case 6 -> events.isEmpty() ? 0 : v[0] - v[events.get(events.size() - 1).end()];
            case 7 -> events.stream().anyMatch(e -> e.kind() == 3) ? 1 : 0;
            default -> INVALID;
        };
    }

    int eventAt(int place) {
        if (!in(place, 0, world.length() + 59)) {
            return INVALID;
        }
        List<Event> events = read(world);
        for (int i = 0; i < events.size(); i++) {
            if (in(place, events.get(i).begin(), events.get(i).end())) {
                return i;
            }
        }
        return NOT_FOUND;
    }

    int worst() {
        List<Event> events = read(world);
        int best = NOT_FOUND;
        for (int i = events.size() - 1; i >= 0; i--) {
            if (events.get(i).kind() != 3 && (best < 0 || events.get(i).loss() >= events.get(best).loss())) {
                best = i;
            }
        }
        return best;
    }

    int findings(int what) {
        List<Event> events = read(world);
        if (in(what, 0, 2)) {
            return (int) world.parts().stream()
                    .filter(p -> p.kind() != 2 && finding(world, events, p)[0] == what).count();
        }
        return what != 3 ? INVALID : (int) events.stream()
                .filter(e -> e.kind() < 2 && world.parts().stream().allMatch(p ->
                        p.kind() == 2 || Math.abs(p.place() - e.begin()) > world.settings().get(9))).count();
    }

    int widthFor() {
        for (int width = 1; width <= 20; width++) {
            World w = world.withSetting(0, width);
            List<Event> events = read(w);
            if (w.parts().stream().allMatch(p -> p.kind() == 2 || finding(w, events, p)[0] == 0)) {
                return width;
            }
        }
        return NOT_FOUND;
    }

    int keep() {
        List<int[]> kept = new ArrayList<>(world.kept());
        if (kept.size() == 3) {
            kept.remove(0);
        }
        kept.add(trace(world));
        change(new World(world.length(), world.attenuation(), world.end(), world.parts(), world.settings(), kept));
        return kept.size();
    }

    int compare(int kept, int limit, int what) {
        if (!in(kept, 0, world.kept().size() - 1) || !in(limit, 0, 50000) || !in(what, 0, 3)) {
            return INVALID;
        }
        int[] v = trace(world);
        int[] k = world.kept().get(kept);
        int first = NOT_FOUND;
        int places = 0;
        int greatest = -1;
        int greatestPlace = -1;
        for (int x = 0; x < v.length && x < k.length; x++) {
            int d = Math.abs(v[x] - k[x]);
            if (d > limit) {
                places++;
                first = first < 0 ? x : first;
            }
            if (d > greatest) {
                greatest = d;
                greatestPlace = x;
            }
        }
        return what == 0 ? first : what == 1 ? places : what == 2 ? greatest : greatestPlace;
    }
}
