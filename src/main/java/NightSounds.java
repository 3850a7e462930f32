import java.util.Arrays;
import java.util.NoSuchElementException;

/** Trains heard at night, over a strip of land, through airs that bend what sounds. */
public final class NightSounds {
    public static final int NONE = -1;

    private static final int MOST_BYTES = 600;
    private static final int MOST_AIR_BYTES = 200;
    private static final int FED_BYTES = 20;
    private static final int MOST_CLAUSES = 60;
    private static final int MOST_RULES = 20;
    private static final int FEWEST_CELLS = 8;
    private static final int CELLS_WITHOUT = 20;
    private static final int MOST_CELLS = 40;
    private static final int MOST_HOUSES = 8;
    private static final int MOST_SOURCES = 6;
    private static final int MOST_WORKS = 8;
    private static final int MOST_AIRS = 6;
    private static final int MOST_IMAGES = 3;
    private static final int MOST_CLICKS = 80;
    private static final int LAYERS = 12;
    private static final int HOURS = 24;

    private static final int STRAY = 1;
    private static final int WRONG_NUMBER = 2;
    private static final int TOO_MANY = 3;
    private static final int CELLS_TOO_LATE = 4;

    private static final String CLAUSES = "cells ground wall house hum source screen tar hush foam ";
    private static final int CELLS = 0;
    private static final int GROUND = 1;
    private static final int WALL = 2;
    private static final int HOUSE = 3;
    private static final int HUM = 4;
    private static final int SOURCE = 5;
    private static final int SCREEN = 6;
    private static final int TAR = 7;
    private static final int HUSH = 8;

    private static final String RULES = "layer wind weight fine ";
    private static final int LAYER = 0;
    private static final int WIND = 1;
    private static final int WEIGHT = 2;

    private static final int WATER = 2;
    /** What grass, wood, water and snow eat of a RAY that comes down on them. */
    private static final int[] GROUND_EATS = {3, 6, 0, 9};

    private static final int HIGHEST_PLACE = 24;
    private static final int STEEPEST = 6;
    private static final int DOUBLING_EATS = 6;
    private static final int HEARD_UP = 2;
    private static final int LOWEST_SLOPE = -3;
    private static final int HIGHEST_SLOPE = 6;
    private static final int SOURCE_UP = 1;
    private static final int BELL_UP = 9;
    private static final int LOUDEST = 120;

    private static final int FIRST_NIGHT_HOUR = 22;
    private static final int NIGHT_HOURS = 8;
    private static final int TO_WAKE = 5;

    /** A TIME of a HOUSE that tells nothing. */
    private static final int TELLS_NOTHING = -2;
    private static final int LAST_TIME = 999;
    private static final int LAST_CLICK = 9999;
    private static final int CLICKS_A_WAGON = 4;

    private static final int NO_CELL = 0;
    private static final int NO_ELEMENT = 1;
    private static final int NO_ARGUMENT = 2;

    private final Tape tape = new Tape();
    private Land asTold = new Land();
    private Land spare = new Land();
    private final Land now = new Land();
    private final Land trial = new Land();
    private final Air[] airs = new Air[MOST_AIRS];
    private int airCount;
    private final Mind mind = new Mind();
    private final Mind[] images = new Mind[MOST_IMAGES];
    private int imageCount;
    private final Sounds sounds = new Sounds();
    /** HOUSES that HEAR with each set of WORKS, for one AIR and hour; NONE: not looked at yet. */
    private final int[] hearers = new int[1 << MOST_WORKS];
    private int hearersAir = NONE;
    private int hearersHour = NONE;
    private final int[] refused = new int[3];

    public NightSounds() {
        for (int i = 0; i < airs.length; i++) {
            airs[i] = new Air();
        }
        for (int i = 0; i < images.length; i++) {
            images[i] = new Mind();
        }
    }

    public int feed(int a, int b, int c, int d, int e) {
        if (tape.fed + FED_BYTES > MOST_BYTES) {
            return NONE;
        }
        tape.put(a);
        tape.put(b);
        tape.put(c);
        tape.put(d);
        tape.put(e);
        return tape.fed;
    }

    public int land(int n) throws IllegalArgumentException {
        needArgument(n >= 0 && n <= tape.fed);
        tape.open(n);
        spare.read(tape);
        if (tape.fault != 0) {
            return tape.fault - 10;
        }
        Land old = asTold;
        asTold = spare;
        spare = old;
        mind.clear();
        imageCount = 0;
        rebuild();
        return now.houses;
    }

    public int air(int n) throws IllegalArgumentException {
        needArgument(n >= 0 && n <= Math.min(tape.fed, MOST_AIR_BYTES));
        // Opened even if there are 6: it is the latest text then, though no FAULT of it is told.
        tape.open(n);
        if (airCount >= MOST_AIRS) {
            return -1;
        }
        airs[airCount].read(tape);
        if (tape.fault != 0) {
            return tape.fault - 10;
        }
        airCount++;
        return airCount - 1;
    }

    public int fault() {
        return tape.faultPlace;
    }

    public int told(int what) throws IllegalArgumentException {
        needWhat(what, 5);
        switch (what) {
            case 0: return now.cells;
            case 1: return now.houses;
            case 2: return now.sources;
            case 3: return now.works;
            default: return airCount;
        }
    }

    public int cell(int x, int what) throws IndexOutOfBoundsException, IllegalArgumentException {
        needCell(x);
        needWhat(what, 3);
        switch (what) {
            case 0: return now.kind[x];
            case 1: return now.height[x];
            default: return now.wall[x];
        }
    }

    public int hum(int hour) throws IllegalArgumentException {
        needHour(hour);
        return now.humOf(hour);
    }

    public int ear(int house) throws NoSuchElementException {
        needHouse(house);
        return now.ears[house];
    }

    public int does(int work) throws NoSuchElementException {
        needElement(work, now.works);
        if (hasBit(mind.doneBits(), work)) {
            return 0;
        }
        mind.noteDone(work);
        now.perform(work);
        unhear();
        return 1;
    }

    public int ray(int air, int source, int direction, int slope, int i)
            throws NoSuchElementException, IllegalArgumentException {
        needRay(air, source, direction, slope, i);
        return sounds.follow(now, airs[air], source, direction, slope, i) ? sounds.beam.place : NONE;
    }

    public int left(int air, int source, int direction, int slope, int i)
            throws NoSuchElementException, IllegalArgumentException {
        needRay(air, source, direction, slope, i);
        return sounds.follow(now, airs[air], source, direction, slope, i) ? sounds.beam.remains : 0;
    }

    public int loud(int x, int air, int source) throws IndexOutOfBoundsException, NoSuchElementException {
        needCell(x);
        needAir(air);
        needSource(source);
        return rowOf(air, source)[x];
    }

    public int at(int x, int air, int hour)
            throws IndexOutOfBoundsException, NoSuchElementException, IllegalArgumentException {
        needCell(x);
        needAir(air);
        needHour(hour);
        return loudIn(x, air, hour);
    }

    public int hears(int air, int hour) throws NoSuchElementException, IllegalArgumentException {
        needAir(air);
        needHour(hour);
        int bits = 0;
        for (int k = 0; k < now.houses; k++) {
            if (houseHears(k, air, hour)) {
                bits |= 1 << k;
            }
        }
        return bits;
    }

    public int zones(int air, int source, int what) throws NoSuchElementException, IllegalArgumentException {
        needAir(air);
        needSource(source);
        needWhat(what, 2);
        int[] row = rowOf(air, source);
        int last = lastLoud(row);
        int many = 0;
        int first = NONE;
        // It is LOUD where it stands, so a CELL between two LOUD ones has one farther out.
        for (int x = firstLoud(row); x < last; x++) {
            if (row[x] == 0) {
                many++;
                first = first == NONE ? x : first;
            }
        }
        return what == 0 ? many : first;
    }

    public int why(int air, int other, int source) throws NoSuchElementException {
        needAir(air);
        needAir(other);
        needSource(source);
        int[] by = rowOf(air, source);
        int[] byOther = rowOf(other, source);
        int many = 0;
        for (int x = 0; x < now.cells; x++) {
            if (by[x] > 0 && byOther[x] == 0) {
                many++;
            }
        }
        return many;
    }

    public int nights(int house, int hour, int what) throws NoSuchElementException, IllegalArgumentException {
        needHouse(house);
        needHour(hour);
        needWhat(what, 2);
        int weights = 0;
        for (int a = 0; a < airCount; a++) {
            if (what == 1 || houseHears(house, a, hour)) {
                weights += airs[a].weight;
            }
        }
        return weights;
    }

    public int wakes(int house, int air) throws NoSuchElementException {
        needHouse(house);
        needAir(air);
        return wakingHours(house, air);
    }

    public int badly(int house) throws NoSuchElementException {
        needHouse(house);
        int weights = 0;
        for (int a = 0; a < airCount; a++) {
            if (wakingHours(house, a) >= 2) {
                weights += airs[a].weight;
            }
        }
        return weights;
    }

    public int mean(int house, int hour) throws NoSuchElementException, IllegalArgumentException {
        needHouse(house);
        needHour(hour);
        return meanOf(house, hour);
    }

    public int hides(int house, int hour, int limit) throws NoSuchElementException, IllegalArgumentException {
        needHouse(house);
        needHour(hour);
        needArgument(limit >= 0 && limit <= LOUDEST);
        int bits = 0;
        if (meanOf(house, hour) > limit) {
            return bits;
        }
        for (int a = 0; a < airCount; a++) {
            if (loudIn(now.houseCells[house], a, hour) > limit) {
                bits |= 1 << a;
            }
        }
        return bits;
    }

    public int least(int air, int hour, int houses, int what) throws NoSuchElementException, IllegalArgumentException {
        needAir(air);
        needHour(hour);
        needBits(houses, now.houses);
        needWhat(what, 2);
        int works = leastWorks(air, hour, houses);
        return works == NONE || what == 1 ? works : now.coinOf(works);
    }

    public int bound(int air, int hour, int houses) throws NoSuchElementException, IllegalArgumentException {
        needAir(air);
        needHour(hour);
        needBits(houses, now.houses);
        int most = 0;
        for (int k = 0; k < now.houses; k++) {
            if (hasBit(houses, k)) {
                int works = leastWorks(air, hour, 1 << k);
                if (works == NONE) {
                    return NONE;
                }
                most = Math.max(most, now.coinOf(works));
            }
        }
        return most;
    }

    public int helps(int x, int air, int hour, int t, int what)
            throws IndexOutOfBoundsException, NoSuchElementException, IllegalArgumentException {
        needCell(x);
        needAir(air);
        needHour(hour);
        needArgument(t >= 1 && t <= 9);
        needWhat(what, 2);
        trial.copyFrom(now);
        trial.wall[x] = t;
        int[] after = sounds.inHour(trial, airs[air], hour);
        int bits = 0;
        int together = 0;
        for (int k = 0; k < now.houses; k++) {
            int less = loudIn(now.houseCells[k], air, hour) - after[now.houseCells[k]];
            if (less > 0) {
                bits |= 1 << k;
                together += less;
            }
        }
        return what == 0 ? bits : together;
    }

    public int bell(int air, int hour, int level, int pitch, int houses)
            throws NoSuchElementException, IllegalArgumentException {
        needAir(air);
        needHour(hour);
        needArgument(level >= 1 && level <= LOUDEST && pitch >= 1 && pitch <= 3);
        needBits(houses, now.houses);
        for (int up = 1; up <= BELL_UP; up++) {
            for (int x = 0; x < now.cells; x++) {
                if (mayReach(x, level, pitch, hour, houses)
                        && allHear(sounds.alone(now, airs[air], x, up, level, pitch), hour, houses)) {
                    return 100 * up + x;
                }
            }
        }
        return NONE;
    }

    public int which(int house, int hour, int told, int heard) throws NoSuchElementException, IllegalArgumentException {
        needHouse(house);
        needHour(hour);
        needBits(told, now.sources);
        needArgument((heard & ~told) == 0);
        int bits = 0;
        for (int a = 0; a < airCount; a++) {
            if (heardAlone(house, a, hour, told) == heard) {
                bits |= 1 << a;
            }
        }
        return bits;
    }

    public int saying(int house, int source, int hour, int what) throws NoSuchElementException, IllegalArgumentException {
        needHouse(house);
        needSource(source);
        needHour(hour);
        needWhat(what, 4);
        boolean heard = what < 2;
        int above = 0;
        int below = 0;
        for (int a = 0; a < airCount; a++) {
            if (hearsAlone(house, a, source, hour) == heard) {
                above += airs[a].weight * airs[a].fine;
                below += airs[a].weight * 8;
            }
        }
        if (below == 0) {
            return what % 2;
        }
        return (what % 2 == 0 ? above : below) / commonDivisor(above, below);
    }

    public int tell(int house, int time) throws NoSuchElementException, IllegalArgumentException {
        needHouse(house);
        needArgument(time >= TELLS_NOTHING && time <= LAST_TIME);
        int was = mind.times[house];
        mind.times[house] = time;
        return was;
    }

    public long bang(int air, int hour, int level, int v, int d) throws NoSuchElementException, IllegalArgumentException {
        needAir(air);
        needHour(hour);
        needArgument(level >= 1 && level <= LOUDEST);
        needArgument(v >= 1 && v <= 9 && d >= 0 && d <= 99);
        long bits = 0;
        for (int x = 0; x < now.cells; x++) {
            if (timesAreRight(x, v, d)
                    && isHeardAsTold(sounds.alone(now, airs[air], x, SOURCE_UP, level, 1), hour)) {
                bits |= 1L << x;
            }
        }
        return bits;
    }

    public int click(int time) throws IllegalArgumentException {
        needArgument(time >= 0 && time <= LAST_CLICK && time > mind.lastClick());
        if (mind.clicked >= MOST_CLICKS) {
            return -1;
        }
        mind.noteClick(time);
        return mind.clicked;
    }

    public int wagons(int length, int what) throws IllegalArgumentException {
        needArgument(length >= 1 && length <= 99);
        needWhat(what, 2);
        if (mind.clicked % CLICKS_A_WAGON != 0) {
            return NONE;
        }
        int many = mind.clicked / CLICKS_A_WAGON;
        return what == 0 ? many : pace(length, many);
    }

    public int forget() {
        int went = mind.clicked;
        mind.clicked = 0;
        return went;
    }

    public int image() {
        if (imageCount >= MOST_IMAGES) {
            return -1;
        }
        images[imageCount].copyFrom(mind);
        imageCount++;
        return imageCount;
    }

    public int restore() {
        if (imageCount <= 0) {
            return -1;
        }
        imageCount--;
        mind.copyFrom(images[imageCount]);
        rebuild();
        return imageCount;
    }

    public int status(int what) {
        return what >= 0 && what < refused.length ? refused[what] : NONE;
    }

    public int count(int what) {
        switch (what) {
            case 0: return mind.done;
            case 1: return mind.clicked;
            case 2: return imageCount;
            case 3: return tape.fed;
            default: return NONE;
        }
    }

    private void needCell(int x) {
        if (x < 0 || x >= now.cells) {
            refused[NO_CELL]++;
            throw new IndexOutOfBoundsException("no such cell");
        }
    }

    private void needElement(int number, int many) {
        if (number < 0 || number >= many) {
            refused[NO_ELEMENT]++;
            throw new NoSuchElementException("no such house, source, work or air");
        }
    }

    private void needArgument(boolean right) {
        if (!right) {
            refused[NO_ARGUMENT]++;
            throw new IllegalArgumentException("no such number here");
        }
    }

    private void needHouse(int house) {
        needElement(house, now.houses);
    }

    private void needSource(int source) {
        needElement(source, now.sources);
    }

    private void needAir(int air) {
        needElement(air, airCount);
    }

    private void needHour(int hour) {
        needArgument(hour >= 0 && hour < HOURS);
    }

    private void needWhat(int what, int many) {
        needArgument(what >= 0 && what < many);
    }

    private void needBits(int bits, int many) {
        needArgument((bits & -(1 << many)) == 0);
    }

    private void needRay(int air, int source, int direction, int slope, int i) {
        needAir(air);
        needSource(source);
        needArgument(direction >= 0 && direction <= 1);
        needArgument(slope >= LOWEST_SLOPE && slope <= HIGHEST_SLOPE);
        needArgument(i >= 0 && i < MOST_CELLS);
    }

    private static boolean hasBit(int bits, int i) {
        return (bits >> i & 1) == 1;
    }

    /** The LAND as it was told, and the WORKS that are done, in the order in which they were done. */
    private void rebuild() {
        now.copyFrom(asTold);
        for (int i = 0; i < mind.done; i++) {
            now.perform(mind.order[i]);
        }
        unhear();
    }

    /** Nothing that was worked out for the LAND holds once it has changed. */
    private void unhear() {
        sounds.unhear();
        hearersAir = NONE;
    }

    private int[] rowOf(int air, int source) {
        return sounds.rowOf(now, airs[air], air, source);
    }

    private int loudIn(int x, int air, int hour) {
        int most = 0;
        for (int s = 0; s < now.sources; s++) {
            if (now.soundsIn(s, hour)) {
                most = Math.max(most, rowOf(air, s)[x]);
            }
        }
        return most;
    }

    private boolean houseHears(int house, int air, int hour) {
        return loudIn(now.houseCells[house], air, hour) >= now.needOf(house, hour);
    }

    private boolean hearsAlone(int house, int air, int source, int hour) {
        return now.soundsIn(source, hour) && rowOf(air, source)[now.houseCells[house]] >= now.needOf(house, hour);
    }

    private int heardAlone(int house, int air, int hour, int told) {
        int bits = 0;
        for (int s = 0; s < now.sources; s++) {
            if (hasBit(told, s) && hearsAlone(house, air, s, hour)) {
                bits |= 1 << s;
            }
        }
        return bits;
    }

    private int firstLoud(int[] row) {
        for (int x = 0; x < now.cells; x++) {
            if (row[x] > 0) {
                return x;
            }
        }
        return now.cells;
    }

    private int lastLoud(int[] row) {
        for (int x = now.cells - 1; x >= 0; x--) {
            if (row[x] > 0) {
                return x;
            }
        }
        return NONE;
    }

    private int wakingHours(int house, int air) {
        int many = 0;
        for (int i = 0; i < NIGHT_HOURS; i++) {
            int hour = (FIRST_NIGHT_HOUR + i) % HOURS;
            int wakeAt = now.ears[house] + now.humOf(hour) + TO_WAKE;
            if (loudIn(now.houseCells[house], air, hour) >= wakeAt) {
                many++;
            }
        }
        return many;
    }

    private int meanOf(int house, int hour) {
        int sum = 0;
        int weights = 0;
        for (int a = 0; a < airCount; a++) {
            sum += airs[a].weight * loudIn(now.houseCells[house], a, hour);
            weights += airs[a].weight;
        }
        return weights == 0 ? NONE : sum / weights;
    }

    /** The set of WORKS that is LEAST, as bits; NONE: none does. */
    private int leastWorks(int air, int hour, int houses) {
        int doneBits = mind.doneBits();
        int best = NONE;
        int bestCoin = 0;
        for (int works = 0; works < 1 << now.works; works++) {
            int coin = now.coinOf(works);
            boolean better = best == NONE || coin < bestCoin;
            if ((works & doneBits) == 0 && better && (hearersWith(works, air, hour) & houses) == 0) {
                best = works;
                bestCoin = coin;
            }
        }
        return best;
    }

    private int hearersWith(int works, int air, int hour) {
        if (hearersAir != air || hearersHour != hour) {
            Arrays.fill(hearers, NONE);
            hearersAir = air;
            hearersHour = hour;
        }
        if (hearers[works] == NONE) {
            hearers[works] = tryWorks(works, air, hour);
        }
        return hearers[works];
    }

    private int tryWorks(int works, int air, int hour) {
        trial.copyFrom(now);
        for (int w = 0; w < now.works; w++) {
            if (hasBit(works, w)) {
                trial.perform(w);
            }
        }
        int[] most = sounds.inHour(trial, airs[air], hour);
        int bits = 0;
        for (int k = 0; k < trial.houses; k++) {
            if (most[trial.houseCells[k]] >= trial.needOf(k, hour)) {
                bits |= 1 << k;
            }
        }
        return bits;
    }

    /** Whether what the air alone eats leaves enough for each told HOUSE: spares most RAYS of a BELL. */
    private boolean mayReach(int x, int level, int pitch, int hour, int houses) {
        for (int k = 0; k < now.houses; k++) {
            int away = Math.abs(now.houseCells[k] - x);
            if (hasBit(houses, k) && level - airEats(pitch, away) < now.needOf(k, hour)) {
                return false;
            }
        }
        return true;
    }

    private static int airEats(int pitch, int away) {
        int doublings = 0;
        for (int i = 1; i <= away && i < MOST_CELLS; i *= 2) {
            doublings++;
        }
        return pitch * away + DOUBLING_EATS * doublings;
    }

    private boolean allHear(int[] row, int hour, int houses) {
        for (int k = 0; k < now.houses; k++) {
            if (hasBit(houses, k) && row[now.houseCells[k]] < now.needOf(k, hour)) {
                return false;
            }
        }
        return true;
    }

    private boolean isHeardAsTold(int[] row, int hour) {
        for (int k = 0; k < now.houses; k++) {
            boolean hears = row[now.houseCells[k]] >= now.needOf(k, hour);
            int time = mind.times[k];
            if (time != TELLS_NOTHING && hears != (time != NONE)) {
                return false;
            }
        }
        return true;
    }

    /** A time of the BANG fits all TIMES if no two of them tell of times more than 2 d apart. */
    private boolean timesAreRight(int x, int v, int d) {
        // No time of it that a TIME tells lies outside these, and without TIMES any time fits.
        int earliest = LAST_TIME;
        int latest = -LAST_TIME;
        for (int k = 0; k < now.houses; k++) {
            if (mind.times[k] >= 0) {
                int sent = mind.times[k] - v * Math.abs(now.houseCells[k] - x);
                earliest = Math.min(earliest, sent);
                latest = Math.max(latest, sent);
            }
        }
        return latest - earliest <= 2 * d;
    }

    private int pace(int length, int many) {
        if (many < 2) {
            return NONE;
        }
        int time = mind.clicks[CLICKS_A_WAGON * (many - 1)] - mind.clicks[0];
        return time <= 0 ? NONE : 100 * length * (many - 1) / time;
    }

    private static int commonDivisor(int a, int b) {
        int greater = a;
        int less = b;
        for (int i = 0; i < 64 && less != 0; i++) {
            int rest = greater % less;
            greater = less;
            less = rest;
        }
        return greater <= 0 ? 1 : greater;
    }

    /** The bytes that were fed, and the reading of a text from them; a FAULT, once found, stays. */
    private static final class Tape {
        private static final int NUMBER_CAP = 99999999;

        private final int[] bytes = new int[MOST_BYTES];
        private int fed;
        private int end;
        private int here;
        private int fault;
        private int faultPlace = NONE;

        private void put(int number) {
            for (int shift = 24; shift >= 0 && fed < bytes.length; shift -= 8) {
                bytes[fed] = number >> shift & 255;
                fed++;
            }
        }

        private void open(int n) {
            end = Math.min(n, bytes.length);
            here = 0;
            fault = 0;
            faultPlace = NONE;
            fed = 0;
        }

        private void blame(int kind, int place) {
            if (fault == 0) {
                fault = kind;
                faultPlace = place;
            }
        }

        private boolean isFrom(int first, int last) {
            return here < end && bytes[here] >= first && bytes[here] <= last;
        }

        private void passBlanks() {
            while (here < end && isFrom(' ', ' ')) {
                here++;
            }
        }

        private boolean hasMore() {
            passBlanks();
            return fault == 0 && here < end;
        }

        /** The number of the word here in a list, in which a blank follows each word; NONE, a FAULT: no such word. */
        private int word(String list) {
            int start = here;
            while (here < end && isFrom('a', 'z')) {
                here++;
            }
            int number = 0;
            int from = 0;
            for (int i = 0; i < list.length(); i++) {
                if (list.charAt(i) == ' ') {
                    if (isPart(list, from, i, start)) {
                        return number;
                    }
                    number++;
                    from = i + 1;
                }
            }
            blame(STRAY, start);
            return NONE;
        }

        /** Whether what stands from start to here is a told part of a list. */
        private boolean isPart(String list, int from, int to, int start) {
            if (to - from != here - start) {
                return false;
            }
            for (int i = from; i < to; i++) {
                if (list.charAt(i) != bytes[start + i - from]) {
                    return false;
                }
            }
            return true;
        }

        /** A number from low to high; low if there is a FAULT. */
        private int number(int low, int high) {
            passBlanks();
            int start = here;
            int value = 0;
            while (here < end && isFrom('0', '9')) {
                value = Math.min(NUMBER_CAP, value * 10 + bytes[here] - '0');
                here++;
            }
            if (here == start) {
                blame(STRAY, start);
            } else if (value < low || value > high) {
                blame(WRONG_NUMBER, start);
            }
            return fault == 0 ? value : low;
        }

        /** Passes the sign that ends a CLAUSE or RULE: whether all of it was right. */
        private boolean closes() {
            passBlanks();
            if (!isFrom(';', ';')) {
                blame(STRAY, here);
            }
            here++;
            return fault == 0;
        }
    }

    /** A LAND: as told, or with WORKS done. */
    private static final class Land {
        private int cells;
        private final int[] kind = new int[MOST_CELLS];
        private final int[] height = new int[MOST_CELLS];
        private final int[] wall = new int[MOST_CELLS];
        private int houses;
        private final int[] houseCells = new int[MOST_HOUSES];
        private final int[] ears = new int[MOST_HOUSES];
        private final int[] hums = new int[HOURS];
        private int sources;
        private final int[] sourceCells = new int[MOST_SOURCES];
        private final int[] levels = new int[MOST_SOURCES];
        private final int[] pitches = new int[MOST_SOURCES];
        private final int[] sourceHours = new int[MOST_SOURCES];
        private int works;
        private final int[] workKinds = new int[MOST_WORKS];
        private final int[] workFirsts = new int[MOST_WORKS];
        private final int[] workSeconds = new int[MOST_WORKS];
        private final int[] coins = new int[MOST_WORKS];

        private Land() {
            clear();
        }

        private void clear() {
            cells = CELLS_WITHOUT;
            Arrays.fill(kind, 0);
            Arrays.fill(height, 0);
            Arrays.fill(wall, 0);
            Arrays.fill(hums, NONE);
            houses = 0;
            sources = 0;
            works = 0;
        }

        private void copyFrom(Land other) {
            cells = other.cells;
            copyRow(other.kind, kind);
            copyRow(other.height, height);
            copyRow(other.wall, wall);
            houses = other.houses;
            copyRow(other.houseCells, houseCells);
            copyRow(other.ears, ears);
            copyRow(other.hums, hums);
            sources = other.sources;
            copyRow(other.sourceCells, sourceCells);
            copyRow(other.levels, levels);
            copyRow(other.pitches, pitches);
            copyRow(other.sourceHours, sourceHours);
            works = other.works;
            copyRow(other.workKinds, workKinds);
            copyRow(other.workFirsts, workFirsts);
            copyRow(other.workSeconds, workSeconds);
            copyRow(other.coins, coins);
        }

        private static void copyRow(int[] from, int[] to) {
            System.arraycopy(from, 0, to, 0, Math.min(from.length, to.length));
        }

        private void read(Tape tape) {
            clear();
            for (int n = 0; n <= MOST_CLAUSES && tape.hasMore(); n++) {
                readClause(tape, n);
            }
        }

        private void readClause(Tape tape, int n) {
            int place = tape.here;
            int clause = tape.word(CLAUSES);
            if (n >= MOST_CLAUSES || isFull(clause)) {
                tape.blame(TOO_MANY, place);
            } else if (clause == CELLS && n > 0) {
                tape.blame(CELLS_TOO_LATE, place);
            }
            if (tape.fault != 0) {
                return;
            }
            switch (clause) {
                case CELLS: readCells(tape); break;
                case GROUND: readGround(tape); break;
                case WALL: readWall(tape); break;
                case HOUSE: readHouse(tape); break;
                case HUM: readHum(tape); break;
                case SOURCE: readSource(tape); break;
                default: readWork(tape, clause); break;
            }
        }

        private boolean isFull(int clause) {
            return clause == HOUSE && houses >= MOST_HOUSES
                    || clause == SOURCE && sources >= MOST_SOURCES
                    || clause >= SCREEN && works >= MOST_WORKS;
        }

        private void readCells(Tape tape) {
            int many = tape.number(FEWEST_CELLS, MOST_CELLS);
            if (tape.closes()) {
                cells = many;
            }
        }

        private void readGround(Tape tape) {
            int from = tape.number(0, cells - 1);
            int to = tape.number(from, cells - 1);
            int what = tape.number(0, 3);
            int high = tape.number(0, 9);
            if (tape.closes()) {
                for (int x = from; x <= to; x++) {
                    kind[x] = what;
                    height[x] = high;
                }
            }
        }

        private void readWall(Tape tape) {
            int x = tape.number(0, cells - 1);
            int high = tape.number(1, 9);
            if (tape.closes()) {
                wall[x] = high;
            }
        }

        private void readHouse(Tape tape) {
            int x = tape.number(0, cells - 1);
            int ear = tape.number(0, 60);
            if (tape.closes()) {
                houseCells[houses] = x;
                ears[houses] = ear;
                houses++;
            }
        }

        private void readHum(Tape tape) {
            int hour = tape.number(0, HOURS - 1);
            int value = tape.number(0, 40);
            if (tape.closes()) {
                hums[hour] = value;
            }
        }

        private void readSource(Tape tape) {
            int x = tape.number(0, cells - 1);
            int level = tape.number(1, LOUDEST);
            int pitch = tape.number(1, 3);
            int hours = tape.number(1, (1 << HOURS) - 1);
            if (tape.closes()) {
                sourceCells[sources] = x;
                levels[sources] = level;
                pitches[sources] = pitch;
                sourceHours[sources] = hours;
                sources++;
            }
        }

        private void readWork(Tape tape, int work) {
            int first;
            int second;
            if (work == SCREEN) {
                first = tape.number(0, cells - 1);
                second = tape.number(1, 9);
            } else if (work == TAR) {
                first = tape.number(0, cells - 1);
                second = tape.number(first, cells - 1);
            } else if (work == HUSH) {
                first = tape.number(0, sources - 1);
                second = tape.number(1, 99);
            } else {
                first = tape.number(0, houses - 1);
                second = tape.number(1, 30);
            }
            int coin = tape.number(1, 99);
            if (tape.closes()) {
                workKinds[works] = work;
                workFirsts[works] = first;
                workSeconds[works] = second;
                coins[works] = coin;
                works++;
            }
        }

        private void perform(int work) {
            int first = workFirsts[work];
            int second = workSeconds[work];
            switch (workKinds[work]) {
                case SCREEN: wall[first] = second; break;
                case TAR: flood(first, second); break;
                case HUSH: levels[first] = Math.max(0, levels[first] - second); break;
                default: ears[first] += second; break;
            }
        }

        private void flood(int from, int to) {
            for (int x = from; x <= to; x++) {
                kind[x] = WATER;
            }
        }

        private int coinOf(int set) {
            int coin = 0;
            for (int w = 0; w < works; w++) {
                if (hasBit(set, w)) {
                    coin += coins[w];
                }
            }
            return coin;
        }

        private int humOf(int hour) {
            for (int i = 0; i < HOURS; i++) {
                int value = hums[(hour + HOURS - i) % HOURS];
                if (value != NONE) {
                    return value;
                }
            }
            return 0;
        }

        /** How LOUD it must be for a HOUSE to HEAR it. */
        private int needOf(int house, int hour) {
            return Math.max(1, ears[house] + humOf(hour));
        }

        private boolean soundsIn(int source, int hour) {
            return hasBit(sourceHours[source], hour);
        }
    }

    /** An AIR: bends by LAYERS, wind to the right, its weight, and how many of 8 morrows are fine. */
    private static final class Air {
        private final int[] bends = new int[LAYERS];
        private int wind;
        private int weight;
        private int fine;

        private void read(Tape tape) {
            Arrays.fill(bends, 0);
            wind = 0;
            weight = 1;
            fine = 4;
            for (int n = 0; n <= MOST_RULES && tape.hasMore(); n++) {
                readRule(tape, n);
            }
        }

        private void readRule(Tape tape, int n) {
            int place = tape.here;
            int rule = tape.word(RULES);
            if (n >= MOST_RULES) {
                tape.blame(TOO_MANY, place);
            }
            if (tape.fault != 0) {
                return;
            }
            switch (rule) {
                case LAYER: readLayer(tape); break;
                case WIND: wind = tape.number(0, 4) - 2; break;
                case WEIGHT: weight = tape.number(1, 99); break;
                default: fine = tape.number(0, 8); break;
            }
            tape.closes();
        }

        private void readLayer(Tape tape) {
            int layer = tape.number(0, LAYERS - 1);
            bends[layer] = tape.number(0, 4) - 2;
        }
    }

    /** A RAY on its way: CELL by CELL, one a step. */
    private static final class Ray {
        private int from;
        private int up;
        private int level;
        private int pitch;
        private int toward;
        private int x;
        private int away;
        private int place;
        private int slope;
        private int remains;

        private void setSound(int from, int up, int level, int pitch) {
            this.from = from;
            this.up = up;
            this.level = level;
            this.pitch = pitch;
        }

        private void setSource(Land land, int source) {
            setSound(land.sourceCells[source], SOURCE_UP, land.levels[source], land.pitches[source]);
        }

        private void start(Land land, int direction, int slope) {
            toward = direction == 0 ? 1 : -1;
            x = from;
            away = 0;
            place = land.height[from] + up;
            this.slope = slope;
            remains = level;
        }

        /** Goes a CELL farther; false: it has ended, or the LAND. */
        private boolean goes(Land land, Air air) {
            x += toward;
            away++;
            if (x < 0 || x >= land.cells) {
                return false;
            }
            int ground = land.height[x];
            place += slope;
            if (place <= ground) {
                place = ground;
                slope = Math.abs(slope);
                remains -= GROUND_EATS[land.kind[x]];
            }
            if (place > HIGHEST_PLACE || land.wall[x] > 0 && place < ground + land.wall[x]) {
                return false;
            }
            boolean doubled = (away & away - 1) == 0;
            remains -= doubled ? pitch + DOUBLING_EATS : pitch;
            if (remains <= 0) {
                return false;
            }
            int more = air.bends[Math.min(place / 2, LAYERS - 1)] + toward * air.wind;
            slope = Math.max(-STEEPEST, Math.min(STEEPEST, slope + more));
            return true;
        }

        private boolean isNearGround(Land land) {
            return place - land.height[x] <= HEARD_UP;
        }
    }

    /** How LOUD it is where; what the SOURCES of the LAND now do is kept until that changes. */
    private static final class Sounds {
        private final Ray beam = new Ray();
        private final int[][] rows = new int[MOST_AIRS * MOST_SOURCES][MOST_CELLS];
        private final boolean[] known = new boolean[MOST_AIRS * MOST_SOURCES];
        private final int[] one = new int[MOST_CELLS];
        private final int[] most = new int[MOST_CELLS];

        private void unhear() {
            for (int i = 0; i < known.length; i++) {
                known[i] = false;
            }
        }

        private int[] rowOf(Land land, Air air, int airNumber, int source) {
            int i = airNumber * MOST_SOURCES + source;
            if (!known[i]) {
                beam.setSource(land, source);
                spread(land, air, rows[i]);
                known[i] = true;
            }
            return rows[i];
        }

        /** LOUD of one sound at each CELL. */
        private int[] alone(Land land, Air air, int x, int up, int level, int pitch) {
            beam.setSound(x, up, level, pitch);
            spread(land, air, one);
            return one;
        }

        /** LOUD in an hour at each CELL. */
        private int[] inHour(Land land, Air air, int hour) {
            Arrays.fill(most, 0);
            for (int s = 0; s < land.sources; s++) {
                if (land.soundsIn(s, hour)) {
                    beam.setSource(land, s);
                    spread(land, air, one);
                    for (int x = 0; x < land.cells; x++) {
                        most[x] = Math.max(most[x], one[x]);
                    }
                }
            }
            return most;
        }

        /** LOUD at each CELL of the sound that the beam is set to: the most of its RAYS. */
        private void spread(Land land, Air air, int[] row) {
            Arrays.fill(row, 0);
            if (beam.level <= 0) {
                return;
            }
            row[beam.from] = beam.level;
            for (int direction = 0; direction <= 1; direction++) {
                for (int slope = LOWEST_SLOPE; slope <= HIGHEST_SLOPE; slope++) {
                    beam.start(land, direction, slope);
                    for (int i = 1; i < MOST_CELLS && beam.goes(land, air); i++) {
                        if (beam.isNearGround(land)) {
                            row[beam.x] = Math.max(row[beam.x], beam.remains);
                        }
                    }
                }
            }
        }

        /** Takes a RAY of a SOURCE some CELLS away; false: it does not come so far. */
        private boolean follow(Land land, Air air, int source, int direction, int slope, int steps) {
            beam.setSource(land, source);
            beam.start(land, direction, slope);
            boolean goesOn = beam.level > 0;
            for (int i = 0; i < steps && goesOn; i++) {
                goesOn = beam.goes(land, air);
            }
            return goesOn;
        }
    }

    /** What an IMAGE keeps: WORKS that are done, in their order, TIMES and CLICKS. */
    private static final class Mind {
        private final int[] order = new int[MOST_WORKS];
        private int done;
        private final int[] times = new int[MOST_HOUSES];
        private final int[] clicks = new int[MOST_CLICKS];
        private int clicked;

        private Mind() {
            clear();
        }

        private void clear() {
            done = 0;
            Arrays.fill(times, TELLS_NOTHING);
            clicked = 0;
        }

        private void copyFrom(Mind other) {
            done = other.done;
            System.arraycopy(other.order, 0, order, 0, order.length);
            System.arraycopy(other.times, 0, times, 0, times.length);
            clicked = other.clicked;
            System.arraycopy(other.clicks, 0, clicks, 0, clicks.length);
        }

        private void noteDone(int work) {
            if (done < order.length) {
                order[done] = work;
                done++;
            }
        }

        private void noteClick(int time) {
            if (clicked < clicks.length) {
                clicks[clicked] = time;
                clicked++;
            }
        }

        private int lastClick() {
            return clicked == 0 ? NONE : clicks[clicked - 1];
        }

        private int doneBits() {
            int bits = 0;
            for (int i = 0; i < done; i++) {
                bits |= 1 << order[i];
            }
            return bits;
        }
    }
}
