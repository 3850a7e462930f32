import java.util.ArrayDeque;
import java.util.ArrayList;
import java.util.Arrays;
import java.util.Deque;
import java.util.List;
import java.util.Map;
import java.util.NoSuchElementException;
import java.util.TreeMap;

/**
 * The document once more, slowly and with the whole library: nothing is kept that can be worked out anew,
 * so that NightSounds can be held against it.
 */
final class Model {
    /** A CLAUSE or RULE: its word's number in the list, and its numbers. */
    record Phrase(String word, List<Integer> numbers) { }

    record House(int x, int ear) { }

    record Source(int x, int level, int pitch, int hours) { }

    record Air(int[] bends, int wind, int weight, int fine) { }

    record Image(List<Integer> done, int[] times, List<Integer> clicks) { }

    /** What a RAY is at each CELL away that it comes to. */
    record Point(int x, int place, int rest) { }

    static final class Fault extends Exception {
        final int kind;
        final int place;

        Fault(int kind, int place) {
            this.kind = kind;
            this.place = place;
        }
    }

    /** The ground of a LAND with some WORKS done. */
    static final class Scene {
        int[] kind;
        int[] height;
        int[] wall;
        List<House> houses = new ArrayList<>();
        List<Source> sources = new ArrayList<>();
    }

    private byte[] tape = new byte[0];
    private List<Phrase> land = new ArrayList<>();
    private final List<Air> airs = new ArrayList<>();
    private int faultPlace = -1;
    private List<Integer> done = new ArrayList<>();
    private int[] times = new int[8];
    private List<Integer> clicks = new ArrayList<>();
    private Deque<Image> images = new ArrayDeque<>();
    private final int[] refused = new int[3];

    Model() {
        Arrays.fill(times, -2);
    }

    // ---- texts

    private static final Map<String, Integer> NUMBERS = Map.ofEntries(
            Map.entry("cells", 1), Map.entry("ground", 4), Map.entry("wall", 2), Map.entry("house", 2),
            Map.entry("hum", 2), Map.entry("source", 4), Map.entry("screen", 3), Map.entry("tar", 3),
            Map.entry("hush", 3), Map.entry("foam", 3), Map.entry("layer", 2), Map.entry("wind", 1),
            Map.entry("weight", 1), Map.entry("fine", 1));
    private static final List<String> LAND_WORDS = List.of(
            "cells", "ground", "wall", "house", "hum", "source", "screen", "tar", "hush", "foam");
    private static final List<String> WORKS = List.of("screen", "tar", "hush", "foam");

    private static long many(List<Phrase> phrases, String... words) {
        return phrases.stream().filter(p -> List.of(words).contains(p.word())).count();
    }

    private static int cellsOf(List<Phrase> phrases) {
        return phrases.isEmpty() || !phrases.get(0).word().equals("cells") ? 20 : phrases.get(0).numbers().get(0);
    }

    private static int[] range(List<Phrase> ahead, String word, List<Integer> numbers) {
        int i = numbers.size();
        int last = cellsOf(ahead) - 1;
        int sources = (int) many(ahead, "source");
        int houses = (int) many(ahead, "house");
        switch (word + i) {
            case "cells0": return new int[] {8, 40};
            case "ground0": case "wall0": case "house0": case "source0": case "screen0": case "tar0":
                return new int[] {0, last};
            case "ground1": case "tar1": return new int[] {numbers.get(0), last};
            case "ground2": return new int[] {0, 3};
            case "ground3": return new int[] {0, 9};
            case "wall1": case "screen1": return new int[] {1, 9};
            case "house1": return new int[] {0, 60};
            case "hum0": return new int[] {0, 23};
            case "hum1": return new int[] {0, 40};
            case "source1": return new int[] {1, 120};
            case "source2": return new int[] {1, 3};
            case "source3": return new int[] {1, 16777215};
            case "screen2": case "tar2": case "hush2": case "foam2": return new int[] {1, 99};
            case "hush0": return new int[] {0, sources - 1};
            case "hush1": return new int[] {1, 99};
            case "foam0": return new int[] {0, houses - 1};
            case "foam1": return new int[] {1, 30};
            case "layer0": return new int[] {0, 11};
            case "layer1": case "wind0": return new int[] {0, 4};
            case "weight0": return new int[] {1, 99};
            case "fine0": return new int[] {0, 8};
            default: throw new AssertionError(word + i);
        }
    }

    private static int run(byte[] text, int from, String signs) {
        int to = from;
        while (to < text.length && text[to] >= 0 && signs.indexOf((char) text[to]) >= 0) {
            to++;
        }
        return to;
    }

    private static List<Phrase> parse(byte[] text, boolean isLand) throws Fault {
        List<Phrase> ahead = new ArrayList<>();
        int here = run(text, 0, " ");
        while (here < text.length) {
            int to = run(text, here, "abcdefghijklmnopqrstuvwxyz");
            String word = new String(text, here, to - here, java.nio.charset.StandardCharsets.ISO_8859_1);
            checkWord(ahead, word, here, isLand);
            here = to;
            List<Integer> numbers = new ArrayList<>();
            while (numbers.size() < NUMBERS.get(word)) {
                here = run(text, here, " ");
                to = run(text, here, "0123456789");
                if (to == here) {
                    throw new Fault(1, here);
                }
                java.math.BigInteger value = new java.math.BigInteger(new String(text, here, to - here));
                int[] range = range(ahead, word, numbers);
                if (value.compareTo(java.math.BigInteger.valueOf(range[0])) < 0
                        || value.compareTo(java.math.BigInteger.valueOf(range[1])) > 0) {
                    throw new Fault(2, here);
                }
                numbers.add(value.intValueExact());
                here = to;
            }
            here = run(text, here, " ");
            if (here >= text.length || text[here] != ';') {
                throw new Fault(1, here);
            }
            here = run(text, here + 1, " ");
            ahead.add(new Phrase(word, numbers));
        }
        return ahead;
    }

    private static void checkWord(List<Phrase> ahead, String word, int place, boolean isLand) throws Fault {
        boolean known = NUMBERS.containsKey(word) && LAND_WORDS.contains(word) == isLand;
        if (!known) {
            throw new Fault(1, place);
        }
        if (ahead.size() == (isLand ? 60 : 20)
                || word.equals("house") && many(ahead, "house") == 8
                || word.equals("source") && many(ahead, "source") == 6
                || WORKS.contains(word) && many(ahead, "screen", "tar", "hush", "foam") == 8) {
            throw new Fault(3, place);
        }
        if (word.equals("cells") && !ahead.isEmpty()) {
            throw new Fault(4, place);
        }
    }

    // ---- refusals

    private void cellIs(int x) {
        if (x < 0 || x >= cellsOf(land)) {
            refused[0]++;
            throw new IndexOutOfBoundsException();
        }
    }

    private void is(int i, long many) {
        if (i < 0 || i >= many) {
            refused[1]++;
            throw new NoSuchElementException();
        }
    }

    private void within(long value, long low, long high) {
        if (value < low || value > high) {
            refused[2]++;
            throw new IllegalArgumentException();
        }
    }

    private long houseCount() {
        return many(land, "house");
    }

    private long sourceCount() {
        return many(land, "source");
    }

    private List<Phrase> works() {
        return land.stream().filter(p -> WORKS.contains(p.word())).toList();
    }

    // ---- the LAND, worked out anew

    private Scene scene(List<Integer> works) {
        Scene s = new Scene();
        int n = cellsOf(land);
        s.kind = new int[n];
        s.height = new int[n];
        s.wall = new int[n];
        for (Phrase p : land) {
            List<Integer> v = p.numbers();
            switch (p.word()) {
                case "ground":
                    for (int x = v.get(0); x <= v.get(1); x++) {
                        s.kind[x] = v.get(2);
                        s.height[x] = v.get(3);
                    }
                    break;
                case "wall": s.wall[v.get(0)] = v.get(1); break;
                case "house": s.houses.add(new House(v.get(0), v.get(1))); break;
                case "source": s.sources.add(new Source(v.get(0), v.get(1), v.get(2), v.get(3))); break;
                default: break;
            }
        }
        for (int w : works) {
            doWork(s, works().get(w));
        }
        return s;
    }

    private static void doWork(Scene s, Phrase work) {
        int a = work.numbers().get(0);
        int b = work.numbers().get(1);
        switch (work.word()) {
            case "screen": s.wall[a] = b; break;
            case "tar":
                for (int x = a; x <= b; x++) {
                    s.kind[x] = 2;
                }
                break;
            case "hush": {
                Source o = s.sources.get(a);
                s.sources.set(a, new Source(o.x(), o.level() < b ? 0 : o.level() - b, o.pitch(), o.hours()));
                break;
            }
            default: {
                House h = s.houses.get(a);
                s.houses.set(a, new House(h.x(), h.ear() + b));
            }
        }
    }

    private Scene scene() {
        return scene(done);
    }

    private int humIn(int hour) {
        TreeMap<Integer, Integer> hums = new TreeMap<>();
        for (Phrase p : land) {
            if (p.word().equals("hum")) {
                hums.put(p.numbers().get(0), p.numbers().get(1));
            }
        }
        if (hums.isEmpty()) {
            return 0;
        }
        return hums.floorEntry(hour) != null ? hums.floorEntry(hour).getValue() : hums.lastEntry().getValue();
    }

    /** The RAY from its start on, till it ends. */
    private static List<Point> points(Scene s, Air air, Source from, int up, boolean right, int slope) {
        List<Point> points = new ArrayList<>();
        if (from.level() == 0) {
            return points;
        }
        int place = s.height[from.x()] + up;
        int rest = from.level();
        points.add(new Point(from.x(), place, rest));
        for (int away = 1; ; away++) {
            int x = right ? from.x() + away : from.x() - away;
            if (x < 0 || x == s.height.length) {
                return points;
            }
            place = place + slope;
            if (place <= s.height[x]) {
                place = s.height[x];
                if (slope < 0) {
                    slope = -slope;
                }
                rest -= s.kind[x] == 0 ? 3 : s.kind[x] == 1 ? 6 : s.kind[x] == 2 ? 0 : 9;
            }
            if (place > 24) {
                return points;
            }
            if (s.wall[x] != 0 && place < s.height[x] + s.wall[x]) {
                return points;
            }
            rest -= from.pitch();
            if (List.of(1, 2, 4, 8, 16, 32).contains(away)) {
                rest -= 6;
            }
            if (rest <= 0) {
                return points;
            }
            points.add(new Point(x, place, rest));
            slope += air.bends()[place / 2 > 11 ? 11 : place / 2];
            slope += right ? air.wind() : -air.wind();
            if (slope > 6) {
                slope = 6;
            }
            if (slope < -6) {
                slope = -6;
            }
        }
    }

    private static int loudOf(Scene s, Air air, Source from, int up, int x) {
        if (x == from.x()) {
            return from.level();
        }
        int most = 0;
        for (int slope = -3; slope <= 6; slope++) {
            for (Point p : points(s, air, from, up, x > from.x(), slope)) {
                if (p.x() == x && p.place() <= s.height[x] + 2 && p.rest() > most) {
                    most = p.rest();
                }
            }
        }
        return most;
    }

    private static int loudIn(Scene s, Air air, int x, int hour) {
        int most = 0;
        for (Source o : s.sources) {
            if ((o.hours() & 1 << hour) != 0) {
                most = Math.max(most, loudOf(s, air, o, 1, x));
            }
        }
        return most;
    }

    private boolean hearsBy(Scene s, int house, int loud, int hour) {
        return loud >= 1 && loud >= s.houses.get(house).ear() + humIn(hour);
    }

    private boolean hearsIn(Scene s, int house, Air air, int hour) {
        return hearsBy(s, house, loudIn(s, air, s.houses.get(house).x(), hour), hour);
    }

    private boolean hearsSource(int house, Air air, int source, int hour) {
        Scene s = scene();
        Source o = s.sources.get(source);
        return (o.hours() & 1 << hour) != 0
                && hearsBy(s, house, loudOf(s, air, o, 1, s.houses.get(house).x()), hour);
    }

    // ---- the face

    int feed(int a, int b, int c, int d, int e) {
        if (tape.length > 580) {
            return -1;
        }
        java.nio.ByteBuffer more = java.nio.ByteBuffer.allocate(tape.length + 20);
        more.put(tape).putInt(a).putInt(b).putInt(c).putInt(d).putInt(e);
        tape = more.array();
        return tape.length;
    }

    int land(int n) {
        within(n, 0, tape.length);
        byte[] text = Arrays.copyOf(tape, n);
        tape = new byte[0];
        faultPlace = -1;
        try {
            land = parse(text, true);
        } catch (Fault f) {
            faultPlace = f.place;
            return f.kind - 10;
        }
        done = new ArrayList<>();
        Arrays.fill(times, -2);
        clicks.clear();
        images.clear();
        return (int) houseCount();
    }

    int air(int n) {
        within(n, 0, Math.min(200, tape.length));
        byte[] text = Arrays.copyOf(tape, n);
        tape = new byte[0];
        faultPlace = -1;
        if (airs.size() == 6) {
            return -1;
        }
        int[] bends = new int[12];
        int wind = 0;
        int weight = 1;
        int fine = 4;
        try {
            for (Phrase p : parse(text, false)) {
                int first = p.numbers().get(0);
                switch (p.word()) {
                    case "layer": bends[first] = p.numbers().get(1) - 2; break;
                    case "wind": wind = first - 2; break;
                    case "weight": weight = first; break;
                    default: fine = first;
                }
            }
        } catch (Fault f) {
            faultPlace = f.place;
            return f.kind - 10;
        }
        airs.add(new Air(bends, wind, weight, fine));
        return airs.size() - 1;
    }

    int fault() {
        return faultPlace;
    }

    int told(int what) {
        within(what, 0, 4);
        return new int[] {cellsOf(land), (int) houseCount(), (int) sourceCount(), works().size(), airs.size()}[what];
    }

    int cell(int x, int what) {
        cellIs(x);
        within(what, 0, 2);
        Scene s = scene();
        return what == 0 ? s.kind[x] : what == 1 ? s.height[x] : s.wall[x];
    }

    int hum(int hour) {
        within(hour, 0, 23);
        return humIn(hour);
    }

    int ear(int house) {
        is(house, houseCount());
        return scene().houses.get(house).ear();
    }

    int does(int work) {
        is(work, works().size());
        if (done.contains(work)) {
            return 0;
        }
        done.add(work);
        return 1;
    }

    private Point point(int air, int source, int direction, int slope, int i) {
        is(air, airs.size());
        is(source, sourceCount());
        within(direction, 0, 1);
        within(slope, -3, 6);
        within(i, 0, 39);
        Scene s = scene();
        List<Point> points = points(s, airs.get(air), s.sources.get(source), 1, direction == 0, slope);
        return i < points.size() ? points.get(i) : null;
    }

    int ray(int air, int source, int direction, int slope, int i) {
        Point p = point(air, source, direction, slope, i);
        return p == null ? -1 : p.place();
    }

    int left(int air, int source, int direction, int slope, int i) {
        Point p = point(air, source, direction, slope, i);
        return p == null ? 0 : p.rest();
    }

    int loud(int x, int air, int source) {
        cellIs(x);
        is(air, airs.size());
        is(source, sourceCount());
        Scene s = scene();
        return loudOf(s, airs.get(air), s.sources.get(source), 1, x);
    }

    int at(int x, int air, int hour) {
        cellIs(x);
        is(air, airs.size());
        within(hour, 0, 23);
        return loudIn(scene(), airs.get(air), x, hour);
    }

    int hears(int air, int hour) {
        is(air, airs.size());
        within(hour, 0, 23);
        int bits = 0;
        for (int k = 0; k < houseCount(); k++) {
            bits += hearsIn(scene(), k, airs.get(air), hour) ? 1 << k : 0;
        }
        return bits;
    }

    int zones(int air, int source, int what) {
        is(air, airs.size());
        is(source, sourceCount());
        within(what, 0, 1);
        Scene s = scene();
        Source o = s.sources.get(source);
        List<Integer> found = new ArrayList<>();
        for (int x = 0; x < cellsOf(land); x++) {
            boolean beyond = false;
            for (int y = 0; y < cellsOf(land); y++) {
                boolean farther = x > o.x() && y > x || x < o.x() && y < x;
                beyond |= farther && loudOf(s, airs.get(air), o, 1, y) > 0;
            }
            if (beyond && loudOf(s, airs.get(air), o, 1, x) == 0) {
                found.add(x);
            }
        }
        return what == 0 ? found.size() : found.isEmpty() ? -1 : found.get(0);
    }

    int why(int air, int other, int source) {
        is(air, airs.size());
        is(other, airs.size());
        is(source, sourceCount());
        Scene s = scene();
        int many = 0;
        for (int x = 0; x < cellsOf(land); x++) {
            many += loudOf(s, airs.get(air), s.sources.get(source), 1, x) > 0
                    && loudOf(s, airs.get(other), s.sources.get(source), 1, x) == 0 ? 1 : 0;
        }
        return many;
    }

    int nights(int house, int hour, int what) {
        is(house, houseCount());
        within(hour, 0, 23);
        within(what, 0, 1);
        return airs.stream().filter(a -> what == 1 || hearsIn(scene(), house, a, hour)).mapToInt(Air::weight).sum();
    }

    private int wakesBy(int house, Air air) {
        Scene s = scene();
        House h = s.houses.get(house);
        int many = 0;
        for (int hour : new int[] {22, 23, 0, 1, 2, 3, 4, 5}) {
            many += loudIn(s, air, h.x(), hour) >= h.ear() + humIn(hour) + 5 ? 1 : 0;
        }
        return many;
    }

    int wakes(int house, int air) {
        is(house, houseCount());
        is(air, airs.size());
        return wakesBy(house, airs.get(air));
    }

    int badly(int house) {
        is(house, houseCount());
        return airs.stream().filter(a -> wakesBy(house, a) > 1).mapToInt(Air::weight).sum();
    }

    private int meanAt(int house, int hour) {
        Scene s = scene();
        int sum = 0;
        for (Air a : airs) {
            sum += a.weight() * loudIn(s, a, s.houses.get(house).x(), hour);
        }
        return sum / airs.stream().mapToInt(Air::weight).sum();
    }

    int mean(int house, int hour) {
        is(house, houseCount());
        within(hour, 0, 23);
        return airs.isEmpty() ? -1 : meanAt(house, hour);
    }

    int hides(int house, int hour, int limit) {
        is(house, houseCount());
        within(hour, 0, 23);
        within(limit, 0, 120);
        Scene s = scene();
        int bits = 0;
        for (int a = 0; a < airs.size(); a++) {
            boolean louder = loudIn(s, airs.get(a), s.houses.get(house).x(), hour) > limit;
            bits += louder && meanAt(house, hour) <= limit ? 1 << a : 0;
        }
        return bits;
    }

    /** The coin and the bits of what is LEAST; null: none does. */
    private int[] leastOf(int air, int hour, int houses) {
        int[] best = null;
        for (int set = 0; set < 1 << works().size(); set++) {
            List<Integer> all = new ArrayList<>(done);
            int coin = 0;
            boolean isNew = true;
            for (int w = 0; w < works().size(); w++) {
                if ((set >> w & 1) == 1) {
                    isNew &= !done.contains(w);
                    all.add(w);
                    coin += works().get(w).numbers().get(2);
                }
            }
            if (isNew && (best == null || coin < best[0]) && silent(scene(all), airs.get(air), hour, houses)) {
                best = new int[] {coin, set};
            }
        }
        return best;
    }

    private boolean silent(Scene s, Air air, int hour, int houses) {
        for (int k = 0; k < houseCount(); k++) {
            if ((houses >> k & 1) == 1 && hearsIn(s, k, air, hour)) {
                return false;
            }
        }
        return true;
    }

    int least(int air, int hour, int houses, int what) {
        is(air, airs.size());
        within(hour, 0, 23);
        within(houses, 0, (1 << houseCount()) - 1);
        within(what, 0, 1);
        int[] best = leastOf(air, hour, houses);
        return best == null ? -1 : best[what];
    }

    int bound(int air, int hour, int houses) {
        is(air, airs.size());
        within(hour, 0, 23);
        within(houses, 0, (1 << houseCount()) - 1);
        int most = 0;
        for (int k = 0; k < houseCount(); k++) {
            if ((houses >> k & 1) == 1) {
                int[] best = leastOf(air, hour, 1 << k);
                if (best == null) {
                    return -1;
                }
                most = Math.max(most, best[0]);
            }
        }
        return most;
    }

    int helps(int x, int air, int hour, int t, int what) {
        cellIs(x);
        is(air, airs.size());
        within(hour, 0, 23);
        within(t, 1, 9);
        within(what, 0, 1);
        Scene before = scene();
        Scene after = scene();
        after.wall[x] = t;
        int bits = 0;
        int sum = 0;
        for (int k = 0; k < houseCount(); k++) {
            int y = before.houses.get(k).x();
            int was = loudIn(before, airs.get(air), y, hour);
            int is = loudIn(after, airs.get(air), y, hour);
            if (is < was) {
                bits |= 1 << k;
                sum += was - is;
            }
        }
        return what == 0 ? bits : sum;
    }

    int bell(int air, int hour, int level, int pitch, int houses) {
        is(air, airs.size());
        within(hour, 0, 23);
        within(level, 1, 120);
        within(pitch, 1, 3);
        within(houses, 0, (1 << houseCount()) - 1);
        Scene s = scene();
        for (int up = 1; up <= 9; up++) {
            for (int x = 0; x < cellsOf(land); x++) {
                boolean all = true;
                for (int k = 0; k < houseCount() && all; k++) {
                    int y = s.houses.get(k).x();
                    all = (houses >> k & 1) == 0
                            || hearsBy(s, k, loudOf(s, airs.get(air), new Source(x, level, pitch, 1), up, y), hour);
                }
                if (all) {
                    return up * 100 + x;
                }
            }
        }
        return -1;
    }

    int which(int house, int hour, int told, int heard) {
        is(house, houseCount());
        within(hour, 0, 23);
        within(told, 0, (1 << sourceCount()) - 1);
        within(heard & ~told, 0, 0);
        int bits = 0;
        for (int a = 0; a < airs.size(); a++) {
            boolean fits = true;
            for (int o = 0; o < sourceCount(); o++) {
                if ((told >> o & 1) == 1) {
                    fits &= hearsSource(house, airs.get(a), o, hour) == ((heard >> o & 1) == 1);
                }
            }
            bits += fits ? 1 << a : 0;
        }
        return bits;
    }

    int saying(int house, int source, int hour, int what) {
        is(house, houseCount());
        is(source, sourceCount());
        within(hour, 0, 23);
        within(what, 0, 3);
        int above = 0;
        int below = 0;
        for (Air a : airs) {
            if (hearsSource(house, a, source, hour) == what < 2) {
                above += a.weight() * a.fine();
                below += 8 * a.weight();
            }
        }
        if (below == 0) {
            below = 1;
        }
        for (int i = below; i > 1; i--) {
            if (above % i == 0 && below % i == 0) {
                above /= i;
                below /= i;
            }
        }
        return what % 2 == 0 ? above : below;
    }

    int tell(int house, int time) {
        is(house, houseCount());
        within(time, -2, 999);
        int was = times[house];
        times[house] = time;
        return was;
    }

    long bang(int air, int hour, int level, int v, int d) {
        is(air, airs.size());
        within(hour, 0, 23);
        within(level, 1, 120);
        within(v, 1, 9);
        within(d, 0, 99);
        Scene s = scene();
        long bits = 0;
        for (int x = 0; x < cellsOf(land); x++) {
            boolean may = false;
            for (int time = -600; time <= 1200 && !may; time++) {
                may = true;
                for (int k = 0; k < houseCount() && may; k++) {
                    int due = time + v * Math.abs(s.houses.get(k).x() - x);
                    may = times[k] < 0 || Math.abs(times[k] - due) <= d;
                }
            }
            for (int k = 0; k < houseCount() && may; k++) {
                Source o = new Source(x, level, 1, 1);
                boolean hears = hearsBy(s, k, loudOf(s, airs.get(air), o, 1, s.houses.get(k).x()), hour);
                may = times[k] == -2 || hears == (times[k] >= 0);
            }
            bits |= may ? 1L << x : 0;
        }
        return bits;
    }

    int click(int time) {
        within(time, clicks.isEmpty() ? 0 : clicks.get(clicks.size() - 1) + 1, 9999);
        if (clicks.size() == 80) {
            return -1;
        }
        clicks.add(time);
        return clicks.size();
    }

    int wagons(int length, int what) {
        within(length, 1, 99);
        within(what, 0, 1);
        int many = clicks.size() / 4;
        if (clicks.size() != 4 * many) {
            return -1;
        }
        if (what == 0) {
            return many;
        }
        return many < 2 ? -1 : 100 * length * (many - 1) / (clicks.get(4 * many - 4) - clicks.get(0));
    }

    int forget() {
        int went = clicks.size();
        clicks.clear();
        return went;
    }

    int image() {
        if (images.size() == 3) {
            return -1;
        }
        images.push(new Image(new ArrayList<>(done), times.clone(), new ArrayList<>(clicks)));
        return images.size();
    }

    int restore() {
        if (images.isEmpty()) {
            return -1;
        }
        Image i = images.pop();
        done = i.done();
        times = i.times();
        clicks = i.clicks();
        return images.size();
    }

    int status(int what) {
        return what < 0 || what > 2 ? -1 : refused[what];
    }

    int count(int what) {
        switch (what) {
            case 0: return done.size();
            case 1: return clicks.size();
            case 2: return images.size();
            case 3: return tape.length;
            default: return -1;
        }
    }
}
