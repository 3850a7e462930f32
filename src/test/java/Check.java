import java.util.NoSuchElementException;

/** What the project's tests share: feeding a text, and holding answers and refusals against what is due. */
final class Check {
    interface Call {
        long run();
    }

    private static int wrong = 0;
    private static int checks = 0;

    private Check() { }

    static void due(String what, long got, long want) {
        checks++;
        if (got != want) {
            wrong++;
            System.out.println(what + " answered " + got + ", due is " + want);
        }
    }

    /** The call must throw just that exception, and be counted once, under its reason alone. */
    static void refused(String what, NightSounds x, Class<?> exception, Call call) {
        int[] want = new int[3];
        int reason = exception == IndexOutOfBoundsException.class ? 0 : exception == NoSuchElementException.class ? 1 : 2;
        for (int i = 0; i < 3; i++) {
            want[i] = x.status(i) + (i == reason ? 1 : 0);
        }
        String got = "nothing";
        try {
            call.run();
        } catch (RuntimeException e) {
            got = e.getClass().getName();
        }
        checks++;
        if (!got.equals(exception.getName())) {
            wrong++;
            System.out.println(what + " throws " + got + ", due is " + exception.getName());
        }
        for (int i = 0; i < 3; i++) {
            due(what + ", then status(" + i + ")", x.status(i), want[i]);
        }
    }

    static void noCell(String what, NightSounds x, Call call) {
        refused(what, x, IndexOutOfBoundsException.class, call);
    }

    static void noElement(String what, NightSounds x, Call call) {
        refused(what, x, NoSuchElementException.class, call);
    }

    static void noArgument(String what, NightSounds x, Call call) {
        refused(what, x, IllegalArgumentException.class, call);
    }

    /** Feeds a text, with zeros behind it; how many bytes it has. */
    static int feed(NightSounds x, String text) {
        for (int i = 0; i < text.length(); i += 20) {
            int[] numbers = new int[5];
            for (int j = 0; j < 20; j++) {
                int sign = i + j < text.length() ? text.charAt(i + j) : 0;
                numbers[j / 4] = numbers[j / 4] << 8 | sign;
            }
            x.feed(numbers[0], numbers[1], numbers[2], numbers[3], numbers[4]);
        }
        return text.length();
    }

    static int land(NightSounds x, String text) {
        return x.land(feed(x, text));
    }

    static int air(NightSounds x, String text) {
        return x.air(feed(x, text));
    }

    /** A new object with a LAND and AIRS, all of them right. */
    static NightSounds with(String land, String... airs) {
        NightSounds x = new NightSounds();
        due(land, Math.min(0, land(x, land)), 0);
        for (int i = 0; i < airs.length; i++) {
            due(airs[i], air(x, airs[i]), i);
        }
        return x;
    }

    static void end() {
        System.out.println(checks + " checks, " + wrong + " wrong");
        System.exit(wrong == 0 ? 0 : 1);
    }
}
