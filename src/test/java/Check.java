import java.lang.reflect.InvocationTargetException;
import java.math.BigInteger;
import java.util.Arrays;
import java.util.NoSuchElementException;

/** What the project's tests share: feeding a text, and holding answers and refusals against what is due. */
final class Check {
    interface Call {
        long run();
    }

    /** What is due of a text: landText or airText. */
    interface Text {
        void due(String text, int fault, int place);
    }

    private static int wrong = 0;
    private static int checks = 0;

    private Check() { }

    static void due(String what, long got, long want) {
        checks++;
        if (got != want) {
            wrong++;
            System.out.println(what + " answered " + got + ", due is " + want);
        }
    }

    /** The call must throw just that exception, and be counted once, under its reason alone. */
    static void refused(String what, NightSounds x, Class<?> exception, Call call) {
        int[] want = new int[3];
        int reason = exception == IndexOutOfBoundsException.class ? 0 : exception == NoSuchElementException.class ? 1 : 2;
        for (int i = 0; i < 3; i++) {
            want[i] = x.status(i) + (i == reason ? 1 : 0);
        }
        String got = "nothing";
        try {
            call.run();
        } catch (RuntimeException e) {
            got = e.getClass().getName();
        }
        checks++;
        if (!got.equals(exception.getName())) {
            wrong++;
            System.out.println(what + " throws " + got + ", due is " + exception.getName());
        }
        for (int i = 0; i < 3; i++) {
            due(what + ", then status(" + i + ")", x.status(i), want[i]);
        }
    }

    static void noCell(String what, NightSounds x, Call call) {
        refused(what, x, IndexOutOfBoundsException.class, call);
    }

    static void noElement(String what, NightSounds x, Call call) {
        refused(what, x, NoSuchElementException.class, call);
    }

    static void noArgument(String what, NightSounds x, Call call) {
        refused(what, x, IllegalArgumentException.class, call);
    }

    /** Feeds a text, with zeros behind it; how many bytes it has. */
    static int feed(NightSounds x, String text) {
        for (int i = 0; i < text.length(); i += 20) {
            int[] numbers = new int[5];
            for (int j = 0; j < 20; j++) {
                int sign = i + j < text.length() ? text.charAt(i + j) : 0;
                numbers[j / 4] = numbers[j / 4] << 8 | sign;
            }
            x.feed(numbers[0], numbers[1], numbers[2], numbers[3], numbers[4]);
        }
        return text.length();
    }

    static int land(NightSounds x, String text) {
        return x.land(feed(x, text));
    }

    static int air(NightSounds x, String text) {
        return x.air(feed(x, text));
    }

    /** A new object with a LAND and AIRS, all of them right. */
    static NightSounds with(String land, String... airs) {
        NightSounds x = new NightSounds();
        due(land, Math.min(0, land(x, land)), 0);
        for (int i = 0; i < airs.length; i++) {
            due(airs[i], air(x, airs[i]), i);
        }
        return x;
    }

    /** What is due of the text of a LAND: FAULT 0 is none; the place is told for a FAULT alone. */
    static void landText(String text, int fault, int place) {
        NightSounds x = new NightSounds();
        due("land " + text, land(x, text), fault == 0 ? x.told(1) : fault - 10);
        due("fault of " + text, x.fault(), fault == 0 ? -1 : place);
    }

    /** Likewise of an AIR: with a FAULT there is none behind it. */
    static void airText(String text, int fault, int place) {
        NightSounds x = new NightSounds();
        due("air " + text, air(x, text), fault == 0 ? 0 : fault - 10);
        due("fault of " + text, x.fault(), fault == 0 ? -1 : place);
        due("airs by " + text, x.told(4), fault == 0 ? 1 : 0);
    }

    /** A number from low to high stands between two parts of a text: none such is FAULT 2, where it begins. */
    static void numberBounds(Text texts, String ahead, int low, int high, String behind) {
        int place = ahead.length();
        for (int fits : new int[] {low, high}) {
            texts.due(ahead + fits + behind, 0, 0);
            texts.due(ahead + "0".repeat(30) + fits + behind, 0, 0);
        }
        texts.due(ahead + (high + 1) + behind, 2, place);
        texts.due(ahead + "0" + (high + 1) + behind, 2, place);
        if (low > 0) {
            texts.due(ahead + (low - 1) + behind, 2, place);
            texts.due(ahead + "00" + behind, 2, place);
        }
        for (int bits : new int[] {8, 16, 31, 32, 63, 64, 128}) {
            BigInteger wrapped = BigInteger.ONE.shiftLeft(bits).add(BigInteger.valueOf(low));
            if (wrapped.compareTo(BigInteger.valueOf(high)) > 0) {
                texts.due(ahead + wrapped + behind, 2, place);
            }
        }
        texts.due(ahead + "1" + "0".repeat(40) + low + behind, 2, place);
        texts.due(ahead + "-" + low + behind, 1, place);
        texts.due(ahead + "+" + low + behind, 1, place);
    }

    /** Any call by its name: its answer, or what it throws. */
    static String answer(Object object, String name, int... numbers) {
        Class<?>[] types = new Class<?>[numbers.length];
        Arrays.fill(types, int.class);
        try {
            Object[] boxed = Arrays.stream(numbers).boxed().toArray();
            return String.valueOf(object.getClass().getDeclaredMethod(name, types).invoke(object, boxed));
        } catch (InvocationTargetException e) {
            return "throws " + e.getCause().getClass().getName();
        } catch (ReflectiveOperationException e) {
            throw new AssertionError(e);
        }
    }

    static void same(String what, String got, String want) {
        checks++;
        if (!got.equals(want)) {
            wrong++;
            System.out.println(what + " answered " + got + ", due is " + want);
        }
    }

    static void end() {
        System.out.println(checks + " checks, " + wrong + " wrong");
        System.exit(wrong == 0 ? 0 : 1);
    }
}
