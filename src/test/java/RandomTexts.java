import java.util.Random;

/** Texts of LANDS and AIRS for runs by chance: most of them right, some a little wrong. */
final class RandomTexts {
    private final Random random;

    RandomTexts(Random random) {
        this.random = random;
    }

    int from(int low, int high) {
        return low + random.nextInt(high - low + 1);
    }

    private String blanks(int least) {
        return " ".repeat(random.nextInt(8) == 0 ? from(least, 3) : least);
    }

    private void add(StringBuilder text, int most, String word, int... numbers) {
        StringBuilder phrase = new StringBuilder(blanks(0)).append(word);
        for (int i = 0; i < numbers.length; i++) {
            phrase.append(blanks(i == 0 && random.nextInt(9) == 0 ? 0 : 1));
            phrase.append(random.nextInt(20) == 0 ? "00" : "").append(numbers[i]);
        }
        phrase.append(blanks(0)).append(';');
        if (text.length() + phrase.length() <= most) {
            text.append(phrase);
        }
    }

    private int hours() {
        return random.nextInt(3) == 0 ? from(1, 16777215) : 16777215;
    }

    /** A full one has all the CELLS, HOUSES, SOURCES and WORKS that there may be. */
    String land(boolean full) {
        StringBuilder text = new StringBuilder();
        int cells = 20;
        if (full || random.nextInt(4) != 0) {
            cells = full ? 40 : from(8, 40);
            add(text, 600, "cells", cells);
        }
        int quiet = random.nextInt(3) == 0 ? 0 : 15;
        int houses = full ? 8 : from(0, 8);
        int sources = full ? 6 : from(0, 6);
        for (int i = 0; i < sources; i++) {
            add(text, 600, "source", from(0, cells - 1), from(20, 120), from(1, 3), hours());
        }
        for (int i = 0; i < houses; i++) {
            add(text, 600, "house", from(0, cells - 1), from(0, random.nextInt(3) == 0 ? 60 : quiet));
        }
        addWorks(text, full ? 8 : from(0, 8), cells, houses, sources);
        for (int i = from(0, 4); i > 0; i--) {
            add(text, 600, "hum", from(0, 23), from(0, random.nextInt(3) == 0 ? 40 : quiet));
        }
        for (int i = from(0, 6); i > 0; i--) {
            int a = from(0, cells - 1);
            add(text, 600, "ground", a, from(a, cells - 1), from(0, 3), from(0, random.nextBoolean() ? 9 : 2));
        }
        for (int i = from(0, 4); i > 0; i--) {
            add(text, 600, "wall", from(0, cells - 1), from(1, 9));
        }
        return spoil(text.append(blanks(0)));
    }

    private void addWorks(StringBuilder text, int works, int cells, int houses, int sources) {
        for (int i = works; i > 0; i--) {
            int kind = from(0, 3);
            int coin = from(1, random.nextBoolean() ? 99 : 4);
            if (kind == 0) {
                add(text, 600, "screen", from(0, cells - 1), from(1, 9), coin);
            } else if (kind == 1) {
                int a = from(0, cells - 1);
                add(text, 600, "tar", a, from(a, cells - 1), coin);
            } else if (kind == 2 && sources > 0) {
                add(text, 600, "hush", from(0, sources - 1), from(1, 99), coin);
            } else if (kind == 3 && houses > 0) {
                add(text, 600, "foam", from(0, houses - 1), from(1, 30), coin);
            }
        }
    }

    String air() {
        StringBuilder text = new StringBuilder();
        for (int i = from(0, 12); i > 0; i--) {
            add(text, 200, "layer", from(0, 11), from(0, 4));
        }
        if (random.nextBoolean()) {
            add(text, 200, "wind", from(0, 4));
        }
        if (random.nextBoolean()) {
            add(text, 200, "weight", from(1, 99));
        }
        if (random.nextBoolean()) {
            add(text, 200, "fine", from(0, 8));
        }
        return spoil(text);
    }

    private String spoil(StringBuilder text) {
        if (random.nextInt(6) != 0 || text.length() == 0) {
            return text.toString();
        }
        int place = random.nextInt(text.length());
        String signs = "0123456789 ;acdefghilmnorstuwyZ-" + (char) 200 + (char) 0 + (char) 127;
        char sign = signs.charAt(random.nextInt(signs.length()));
        switch (random.nextInt(4)) {
            case 0: text.setLength(place); break;
            case 1: text.deleteCharAt(place); break;
            default: text.setCharAt(place, sign); break;
        }
        return text.toString();
    }
}
