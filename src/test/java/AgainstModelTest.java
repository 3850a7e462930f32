import java.util.ArrayList;
import java.util.Arrays;
import java.util.List;
import java.util.Random;

/** Runs by chance, the same each time: NightSounds and the slow model must answer alike, refusals too. */
public final class AgainstModelTest {
    /**
     * Every call, with how its arguments are drawn: x CELL, k HOUSE, s SOURCE, w WORK, a AIR, h hour,
     * K bits of HOUSES, S bits of SOURCES, or a range.
     */
    private static final String[] CALLS = {
        "fault", "told 0..4", "cell x 0..2", "hum h", "ear k", "does w", "does w",
        "ray a s 0..1 -3..6 0..39", "ray a s 0..1 -3..6 0..9", "left a s 0..1 -3..6 0..39", "left a s 0..1 -3..6 0..9",
        "loud x a s", "loud x a s", "at x a h", "hears a h", "zones a s 0..1", "why a a s", "nights k h 0..1",
        "wakes k a", "badly k", "mean k h", "hides k h 0..120", "hides k h 0..30", "least a h K 0..1", "bound a h K",
        "helps x a h 1..9 0..1", "bell a h 1..120 1..3 K", "which k h S S", "saying k s h 0..3",
        "tell k -2..999", "tell k -2..40", "bang a h 1..120 1..9 0..99", "bang a h 40..120 1..9 0..99", "click 0..9999",
        "click 0..2000", "click c", "click c", "click c", "wagons 1..99 0..1", "forget", "image", "restore",
        "status 0..2", "count 0..3"};
    private static final int RUNS = 260;
    private static final int CALLS_A_RUN = 160;

    private final Random random;
    private final RandomTexts texts;
    private final NightSounds sounds = new NightSounds();
    private final Model model = new Model();
    private final List<String> told = new ArrayList<>();
    private final boolean isFull;
    private int clicked;
    private static int wrong = 0;
    private static int refusedCalls = 0;
    private static int calls = 0;

    private AgainstModelTest(long seed) {
        isFull = seed % 4 == 0;
        random = new Random(seed);
        texts = new RandomTexts(random);
    }

    /** With an argument: so many runs, for a longer look by hand. */
    public static void main(String[] args) {
        int runs = args.length == 0 ? RUNS : Integer.parseInt(args[0]);
        for (int seed = 1; seed <= runs && wrong == 0; seed++) {
            new AgainstModelTest(seed).run();
        }
        System.out.println(calls + " calls, " + refusedCalls + " of them refused, " + wrong + " wrong");
        System.exit(wrong == 0 ? 0 : 1);
    }

    private void run() {
        readText("land", texts.land(isFull));
        for (int i = isFull ? 8 : texts.from(0, 7); i > 0; i--) {
            readText("air", texts.air());
        }
        for (int i = 0; i < CALLS_A_RUN && wrong == 0; i++) {
            if (random.nextInt(60) == 0) {
                readText("land", texts.land(isFull));
            } else if (random.nextInt(40) == 0) {
                readText("air", texts.air());
            } else {
                String[] words = CALLS[random.nextInt(CALLS.length)].split(" ");
                int[] numbers = new int[words.length - 1];
                for (int j = 0; j < numbers.length; j++) {
                    numbers[j] = draw(words[j + 1]);
                }
                both(words[0], numbers);
            }
        }
    }

    private void readText(String call, String text) {
        for (int i = 0; i < text.length() || random.nextInt(9) == 0; i += 20) {
            int[] numbers = new int[5];
            for (int j = 0; j < 20; j++) {
                int sign = i + j < text.length() ? text.charAt(i + j) : random.nextInt(256);
                numbers[j / 4] = numbers[j / 4] << 8 | sign;
            }
            both("feed", numbers);
        }
        told.add("# " + text);
        both(call, random.nextInt(20) == 0 ? text.length() + texts.from(-2, 25) : text.length());
        both("fault");
        both("count", 3);
    }

    private int draw(String kind) {
        if (random.nextInt(60) == 0) {
            return new int[] {-1, Integer.MIN_VALUE, Integer.MAX_VALUE, -3, 1000, 40, 24, 8}[random.nextInt(8)];
        }
        switch (kind) {
            case "x": return near(model.told(0));
            case "k": return near(model.told(1));
            case "s": return near(model.told(2));
            case "w": return near(model.told(3));
            case "a": return near(model.told(4));
            case "h": return near(24);
            case "K": return near(1 << model.told(1));
            case "S": return near(1 << model.told(2));
            case "c":
                clicked = model.count(1) == 0 ? 0 : clicked;
                clicked += texts.from(1, 60);
                return clicked;
            default: {
                String[] ends = kind.split("\\.\\.");
                int low = Integer.parseInt(ends[0]);
                int high = Integer.parseInt(ends[1]);
                return random.nextInt(50) == 0 ? (random.nextBoolean() ? low - 1 : high + 1) : texts.from(low, high);
            }
        }
    }

    private int near(int many) {
        return many == 0 || random.nextInt(50) == 0 ? many : random.nextInt(many);
    }

    private void both(String name, int... numbers) {
        String got = Check.answer(sounds, name, numbers);
        String due = Check.answer(model, name, numbers);
        told.add(name + Arrays.toString(numbers) + " -> " + due);
        calls++;
        refusedCalls += due.startsWith("throws") ? 1 : 0;
        if (!got.equals(due)) {
            wrong++;
            told.forEach(System.out::println);
            System.out.println("answered " + got + ", due is " + due);
        }
    }
}
