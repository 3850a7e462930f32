import java.util.ArrayList;
import java.util.List;

/**
 * Every argument of every call, on objects that are new, empty but for an AIR, small, and full: the numbers at
 * its bounds are taken; those just beyond, and the least and greatest int, are refused by the exception that the
 * document names, are counted once by status, and change nothing.
 */
public final class CallBoundsTest {
    /**
     * x CELL, k HOUSE, s SOURCE, w WORK, a AIR, K bits of HOUSES, S bits of SOURCES (H: of those that S tells),
     * n bytes of the TAPE (N: 200 at most), or a range. Arguments that are not looked at stand at their least, but
     * for S: at its most.
     */
    private static final String[] CALLS = {
        "land n", "air N", "told 0..4", "cell x 0..2", "hum 0..23", "ear k", "does w", "ray a s 0..1 -3..6 0..39",
        "left a s 0..1 -3..6 0..39", "loud x a s", "at x a 0..23", "hears a 0..23", "zones a s 0..1", "why a a s",
        "nights k 0..23 0..1", "wakes k a", "badly k", "mean k 0..23", "hides k 0..23 0..120",
        "least a 0..23 K 0..1", "bound a 0..23 K", "helps x a 0..23 1..9 0..1", "bell a 0..23 1..120 1..3 K",
        "which k 0..23 S H", "saying k s 0..23 0..3", "tell k -2..999", "bang a 0..23 1..120 1..9 0..99",
        "click 0..9999", "wagons 1..99 0..1"};

    /** Calls that refuse nothing. */
    private static final String[] NEVER = {"feed", "fault", "forget", "image", "restore", "status", "count"};

    private static final int[] FAR = {Integer.MIN_VALUE, Integer.MAX_VALUE, Integer.MIN_VALUE + 1, 1 << 30, -1000000};

    private static final int CELL = 0;
    private static final int ELEMENT = 1;
    private static final int ARGUMENT = 2;
    private static final String[] THROWN = {"throws java.lang.IndexOutOfBoundsException",
        "throws java.util.NoSuchElementException", "throws java.lang.IllegalArgumentException"};

    /** What an object is made of: a LAND, AIRS, and how many bytes are on the TAPE then. */
    private record Made(String land, int airs, int bytes) {
        NightSounds make() {
            NightSounds x = new NightSounds();
            Check.due(land, Math.min(0, Check.land(x, land)), 0);
            for (int i = 0; i < airs; i++) {
                Check.due("air " + i, Check.air(x, "layer " + i + " 1;weight " + (i + 1) + ";"), i);
            }
            Check.feed(x, " ".repeat(bytes));
            return x;
        }
    }

    private static final Made NEW = new Made("", 0, 0);
    private static final Made EMPTY = new Made("", 1, 40);
    private static final Made SMALL = new Made("cells 8;house 7 0;source 0 9 1 1;foam 0 30 99;", 1, 200);
    private static final Made FULL = new Made("cells 40;" + "house 39 60;".repeat(8) + "source 39 120 3 16777215;".repeat(6)
            + "hush 5 99 99;foam 7 30 99;".repeat(4), 6, 600);

    public static void main(String[] args) {
        for (Made made : new Made[] {NEW, EMPTY, SMALL, FULL}) {
            for (String call : CALLS) {
                bounds(made, call.split(" "));
            }
        }
        neverRefused();
        bytesBehindTwoHundred();
        heardOfTold();
        Check.end();
    }

    private static int reason(String kind) {
        return kind.equals("x") ? CELL : "kswa".contains(kind) ? ELEMENT : ARGUMENT;
    }

    private static int low(String kind) {
        return kind.contains("..") ? Integer.parseInt(kind.split("\\.\\.")[0]) : 0;
    }

    /** The greatest number that is taken; below 0: none is. */
    private static int high(NightSounds x, String kind) {
        switch (kind) {
            case "x": return x.told(0) - 1;
            case "k": return x.told(1) - 1;
            case "s": return x.told(2) - 1;
            case "w": return x.told(3) - 1;
            case "a": return x.told(4) - 1;
            case "K": return (1 << x.told(1)) - 1;
            case "S":
            case "H": return (1 << x.told(2)) - 1;
            case "n": return x.count(3);
            case "N": return Math.min(200, x.count(3));
            default: return Integer.parseInt(kind.split("\\.\\.")[1]);
        }
    }

    private static void bounds(Made made, String[] call) {
        NightSounds like = made.make();
        int many = call.length - 1;
        int[] base = new int[many];
        for (int i = 0; i < many; i++) {
            base[i] = call[i + 1].equals("S") ? high(like, call[i + 1]) : low(call[i + 1]);
        }
        for (int i = 0; i < many; i++) {
            String kind = call[i + 1];
            for (int value : new int[] {low(kind), high(like, kind)}) {
                call(made, call, with(base, i, value));
            }
            for (int value : beyond(low(kind), high(like, kind))) {
                call(made, call, with(base, i, value));
                for (int j = i + 1; j < many; j++) {
                    call(made, call, with(with(base, i, value), j, high(like, call[j + 1]) + 1));
                    call(made, call, with(with(base, i, value), j, low(call[j + 1]) - 1));
                }
            }
        }
    }

    private static List<Integer> beyond(int low, int high) {
        List<Integer> numbers = new ArrayList<>(List.of(low - 1, high + 1));
        for (int far : FAR) {
            numbers.add(far);
        }
        return numbers;
    }

    private static int[] with(int[] numbers, int i, int value) {
        int[] changed = numbers.clone();
        changed[i] = value;
        return changed;
    }

    /** Which reason is due, the first of CELL, ELEMENT, ARGUMENT; 3: the call is not refused. */
    private static int due(NightSounds x, String[] call, int[] numbers) {
        int due = 3;
        for (int i = 0; i < numbers.length; i++) {
            String kind = call[i + 1];
            if (numbers[i] < low(kind) || numbers[i] > high(x, kind)) {
                due = Math.min(due, reason(kind));
            }
        }
        return due;
    }

    private static void call(Made made, String[] call, int[] numbers) {
        NightSounds x = made.make();
        int due = due(x, call, numbers);
        StringBuilder what = new StringBuilder(call[0]);
        for (int number : numbers) {
            what.append(' ').append(number);
        }
        String before = due == 3 ? "" : state(x);
        String got = Check.answer(x, call[0], numbers);
        Check.same(what + " of " + made, got.startsWith("throws") ? got : "taken", due == 3 ? "taken" : THROWN[due]);
        for (int i = 0; i < 3; i++) {
            Check.due(what + ", then status " + i, x.status(i), i == due ? 1 : 0);
        }
        if (due < 3) {
            Check.same("the state behind " + what, state(x), before);
        }
    }

    /** What an object is, by calls that leave it so. */
    private static String state(NightSounds x) {
        StringBuilder state = new StringBuilder("fault ").append(x.fault());
        for (int i = 0; i < 5; i++) {
            state.append(" told ").append(x.told(i)).append(" count ").append(x.count(i));
        }
        for (int i = 0; i < x.told(0); i += 7) {
            state.append(" cell ").append(x.cell(i, 0)).append(x.cell(i, 1)).append(x.cell(i, 2));
        }
        for (int i = 0; i < x.told(1); i++) {
            int time = x.tell(i, 0);
            x.tell(i, time);
            state.append(" house ").append(x.ear(i)).append(' ').append(time);
        }
        return state.toString();
    }

    /** What answers NONE or -1 is no refusal: it is not counted. */
    private static void neverRefused() {
        for (Made made : new Made[] {NEW, FULL}) {
            NightSounds x = made.make();
            for (String name : NEVER) {
                boolean isAsked = name.equals("status") || name.equals("count");
                for (int far : FAR) {
                    int[] numbers = isAsked ? new int[] {far} : name.equals("feed") ? new int[] {far, 0, 0, 0, far} : new int[0];
                    String got = Check.answer(x, name, numbers);
                    Check.same(name + " " + far, got.startsWith("throws") || isAsked ? got : "taken", isAsked ? "-1" : "taken");
                }
            }
            Check.land(x, "x");
            Check.air(x, "x");
            for (int i = 0; i < 3; i++) {
                Check.due("36: nothing was refused " + i, x.status(i), 0);
            }
        }
    }

    private static void bytesBehindTwoHundred() {
        for (int bytes = 180; bytes <= 220; bytes += 20) {
            NightSounds x = new Made("", 0, bytes).make();
            Check.same("4: 201 of " + bytes, Check.answer(x, "air", 201), THROWN[ARGUMENT]);
            Check.due("4: the tape stays", x.count(3), bytes);
            Check.same("4: 200 of " + bytes, Check.answer(x, "air", 200), bytes < 200 ? THROWN[ARGUMENT] : "0");
            Check.due("36: refused", x.status(2), bytes < 200 ? 2 : 1);
        }
    }

    /** Promise 27: those that are heard are of the told ones. */
    private static void heardOfTold() {
        for (int told = 0; told < 8; told++) {
            for (int heard = 0; heard < 9; heard++) {
                NightSounds x = Check.with("house 0 0;" + "source 0 1 1 1;".repeat(3));
                boolean isOfThese = (heard & told) == heard;
                Check.same("27: heard " + heard + " of " + told, Check.answer(x, "which", 0, 0, told, heard),
                        isOfThese ? "0" : THROWN[ARGUMENT]);
                Check.due("36: counted", x.status(2), isOfThese ? 0 : 1);
            }
        }
    }
}
