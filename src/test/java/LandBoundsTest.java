/** The bounds that the document's terms name for the text of a LAND, a sentence each. */
public final class LandBoundsTest {
    private static final String WALL = "wall 0 1;";

    public static void main(String[] args) {
        upTo600Bytes();
        noClauses();
        atMost60Clauses();
        cells();
        cellsAheadOnce();
        ground();
        groundWithout();
        wall();
        house();
        eightHouses();
        hum();
        humOfOneHour();
        humWrapsAround();
        source();
        hoursAsBits();
        sixSources();
        screen();
        tar();
        hush();
        foam();
        eightWorks();
        toldAhead();
        xOfEachLand();
        digitsAsManyAsStandThere();
        wordsAsLongAsTheyAre();
        blanksAheadOfAll();
        blanksAloneAre32();
        endsTooEarly();
        tooMuch();
        firstFromTheLeft();
        ofOneTheLeast();
        faultLeavesAll();
        Check.end();
    }

    private static void due(String what, long got, long want) {
        Check.due(what, got, want);
    }

    private static void right(String text) {
        Check.landText(text, 0, 0);
    }

    private static void wrong(String text, int fault, int place) {
        Check.landText(text, fault, place);
    }

    private static void number(String ahead, int low, int high, String behind) {
        Check.numberBounds(Check::landText, ahead, low, high, behind);
    }

    /** "A LAND is a text of up to 600 bytes": the 600th counts; there are never more on the TAPE. */
    private static void upTo600Bytes() {
        String full = " ".repeat(590) + "house 0 7;";
        NightSounds x = new NightSounds();
        Check.feed(x, full);
        due("600 bytes", x.count(3), 600);
        Check.noArgument("601 bytes", x, () -> x.land(601));
        due("they stay", x.count(3), 600);
        due("the last byte counts", x.land(600), 1);
        due("its ear", x.ear(0), 7);
        Check.feed(x, full);
        due("599 of them", x.land(599), -9);
        due("the text ends at 599", x.fault(), 599);
        Check.feed(x, full.substring(0, 599) + " ");
        due("600, too early", x.land(600), -9);
        due("the text ends at 600", x.fault(), 600);
    }

    /** "{ CLAUSE ";" }": there may be none; each has its sign. */
    private static void noClauses() {
        right("");
        right(" ");
        right(" ".repeat(600));
        wrong(";", 1, 0);
        wrong(" ;", 1, 1);
        wrong(WALL + ";", 1, 9);
        wrong("wall 0 1", 1, 8);
        wrong("wall 0 1 wall 0 1;", 1, 9);
        wrong("wall 0 1,", 1, 8);
        wrong("wall 0 1:", 1, 8);
        wrong("wall 0 1<", 1, 8);
    }

    /** "at most 60"; FAULT 3, a CLAUSE too many (at its word). */
    private static void atMost60Clauses() {
        right(WALL.repeat(59));
        right(WALL.repeat(60));
        right(WALL.repeat(60) + " ".repeat(60));
        wrong(WALL.repeat(61), 3, 540);
        wrong(WALL.repeat(60) + "   " + WALL, 3, 543);
        wrong(WALL.repeat(60) + "hum", 3, 540);
        wrong(WALL.repeat(60) + "house 99 99;", 3, 540);
        right("cells 8;" + WALL.repeat(59));
        wrong("cells 8;" + WALL.repeat(60), 3, 539);
        String sixtyOne = "hum 0 1;".repeat(61);
        wrong(sixtyOne, 3, 480);
        right(sixtyOne.substring(0, 480));
    }

    /** "cells N (8 to 40, in a row, numbered from 0 on; 20 without". */
    private static void cells() {
        number("cells ", 8, 40, ";");
        for (int many : new int[] {8, 9, 20, 39, 40}) {
            NightSounds x = Check.with("cells " + many + ";ground " + (many - 1) + " " + (many - 1) + " 3 9;");
            lastCell(x, many, 3, 9);
        }
        NightSounds x = Check.with("ground 19 19 1 8;");
        lastCell(x, 20, 1, 8);
        lastCell(new NightSounds(), 20, 0, 0);
    }

    private static void lastCell(NightSounds x, int many, int ground, int height) {
        due("cells", x.told(0), many);
        due("the first cell", x.cell(0, 0) + x.cell(0, 1), 0);
        due("the last cell's ground", x.cell(many - 1, 0), ground);
        due("the last cell's height", x.cell(many - 1, 1), height);
        Check.noCell("no cell " + many, x, () -> x.cell(many, 0));
        Check.noCell("no cell -1", x, () -> x.cell(-1, 0));
    }

    /** "ahead of all others, once": FAULT 4, cells too late, or again (at the word). */
    private static void cellsAheadOnce() {
        right("cells 9;" + WALL);
        right("  cells 9;");
        wrong("cells 9;cells 9;", 4, 8);
        wrong("cells 9;  cells 9;", 4, 10);
        wrong("cells 9;" + WALL + "cells 9;", 4, 17);
        wrong(WALL + "cells 9;", 4, 9);
        wrong(WALL + "cells 41;", 4, 9);
        wrong(WALL + "cells;", 4, 9);
        wrong(WALL + "cells", 4, 9);
        for (String other : new String[] {"ground 0 0 0 0;", "house 0 0;", "hum 0 0;", "source 0 1 1 1;", "screen 0 1 1;",
            "tar 0 0 1;"}) {
            wrong(other + "cells 20;", 4, other.length());
        }
    }

    /** "ground A B K H (CELLS A to B, B no less than A: K 0 .. 3; HEIGHT H, 0 to 9". */
    private static void ground() {
        number("ground ", 0, 19, " 19 0 0;");
        number("ground 0 ", 0, 19, " 0 0;");
        number("ground 7 ", 7, 19, " 0 0;");
        number("ground 19 ", 19, 19, " 0 0;");
        number("ground 0 0 ", 0, 3, " 0;");
        number("ground 0 0 0 ", 0, 9, ";");
        NightSounds x = Check.with("ground 5 5 1 1;ground 8 10 2 9;ground 10 11 3 4;");
        int[] kinds = {0, 1, 0, 0, 2, 2, 3, 3, 0};
        int[] heights = {0, 1, 0, 0, 9, 9, 4, 4, 0};
        for (int i = 0; i < kinds.length; i++) {
            due("ground of " + (i + 4), x.cell(i + 4, 0), kinds[i]);
            due("height of " + (i + 4), x.cell(i + 4, 1), heights[i]);
        }
        x = Check.with("cells 40;ground 0 39 1 9;");
        due("the first of all", x.cell(0, 0) * 10 + x.cell(0, 1), 19);
        due("the last of all", x.cell(39, 0) * 10 + x.cell(39, 1), 19);
    }

    /** "grass at 0 without". */
    private static void groundWithout() {
        // Told twice, and then with a FAULT: nothing of it is left, wherever the object may keep it.
        NightSounds x = Check.with("cells 40;ground 0 39 3 9;wall 7 7;tar 0 0 1;hum 9 9;");
        Check.land(x, "cells 40;ground 0 39 3 9;wall 7 7;tar 0 0 1;hum 9 9;");
        Check.land(x, "cells 40;ground 0 39 3 9;wall 7 7;tar 0 0 1;hum 9 9;x");
        Check.land(x, "cells 40;");
        due("no hum", x.hum(9), 0);
        due("no works", x.told(3), 0);
        for (int i = 0; i < 40; i++) {
            due("grass", x.cell(i, 0), 0);
            due("at 0", x.cell(i, 1), 0);
            due("no wall", x.cell(i, 2), 0);
        }
    }

    /** "wall X T (T high, 1 to 9; of one CELL the last counts)". */
    private static void wall() {
        number("wall ", 0, 19, " 1;");
        number("wall 0 ", 1, 9, ";");
        NightSounds x = Check.with("wall 0 1;wall 19 9;wall 3 9;wall 3 1;wall 4 1;wall 4 9;");
        int[] cells = {0, 1, 18, 19, 3, 4};
        int[] walls = {1, 0, 0, 9, 1, 9};
        for (int i = 0; i < cells.length; i++) {
            due("wall at " + cells[i], x.cell(cells[i], 2), walls[i]);
        }
    }

    /** "house X E (HOUSES, numbered from 0 on; EAR E, 0 to 60)". */
    private static void house() {
        number("house ", 0, 19, " 0;");
        number("house 0 ", 0, 60, ";");
        NightSounds x = Check.with("house 0 0;house 19 60;");
        due("the least ear", x.ear(0), 0);
        due("the greatest ear", x.ear(1), 60);
    }

    /** "8 at most"; FAULT 3, a HOUSE too many (at its word). */
    private static void eightHouses() {
        NightSounds x = new NightSounds();
        StringBuilder text = new StringBuilder();
        for (int i = 0; i < 8; i++) {
            due(i + " houses", Check.land(x, text.toString()), i);
            due("told", x.told(1), i);
            text.append("house ").append(i).append(' ').append(50 + i).append(';');
        }
        due("8 houses", Check.land(x, text.toString()), 8);
        for (int i = 0; i < 8; i++) {
            due("ear " + i, x.ear(i), 50 + i);
        }
        Check.noElement("no house 8", x, () -> x.ear(8));
        due("9 houses", Check.land(x, text + "  house 0 0;"), -7);
        due("at its word", x.fault(), text.length() + 2);
        due("8 stay", x.told(1), 8);
        wrong(text + "house 20 61;", 3, text.length());
        wrong(text + "house", 3, text.length());
        right(text + "source 0 1 1 1;");
    }

    /** "hum H V (from hour H, 0 to 23, on V, 0 to 40". */
    private static void hum() {
        number("hum ", 0, 23, " 0;");
        number("hum 0 ", 0, 40, ";");
        due("the greatest", Check.with("hum 0 40;").hum(0), 40);
        due("the least", Check.with("hum 0 0;").hum(0), 0);
    }

    /** "of one hour the last counts; 0 without". */
    private static void humOfOneHour() {
        due("the last is less", Check.with("hum 7 40;hum 7 0;").hum(7), 0);
        due("the last is more", Check.with("hum 7 0;hum 7 40;").hum(7), 40);
        NightSounds x = Check.with("hum 3 9;");
        Check.land(x, "");
        for (int hour = 0; hour < 24; hour++) {
            due("without", x.hum(hour), 0);
        }
    }

    /** "HUM of an hour: that of the latest hour told up to it, else of the greatest told". */
    private static void humWrapsAround() {
        NightSounds x = Check.with("hum 23 23;hum 5 5;hum 20 20;hum 6 6;");
        for (int hour = 0; hour < 24; hour++) {
            due("hum of " + hour, x.hum(hour), hour < 5 ? 23 : hour == 5 ? 5 : hour < 20 ? 6 : hour < 23 ? 20 : 23);
        }
        for (int told = 0; told < 24; told++) {
            NightSounds one = Check.with("hum " + told + " 9;");
            for (int hour = 0; hour < 24; hour++) {
                due("one for all hours", one.hum(hour), 9);
            }
        }
    }

    /** "source X L P B (LEVEL L, 1 to 120, PITCH P, 1 to 3, in hours B, bits: 1 to 16,777,215)". */
    private static void source() {
        number("source ", 0, 19, " 1 1 1;");
        number("source 0 ", 1, 120, " 1 1;");
        number("source 0 1 ", 1, 3, " 1;");
        number("source 0 1 1 ", 1, 16777215, ";");
        due("the least level", Check.with("source 19 1 1 1;", "").loud(19, 0, 0), 1);
        due("the greatest level", Check.with("source 0 120 1 1;", "").loud(0, 0, 0), 120);
        due("the least pitch", Check.with("source 0 120 1 1;", "").left(0, 0, 0, 0, 1), 113);
        due("the greatest pitch", Check.with("source 0 120 3 1;", "").left(0, 0, 0, 0, 1), 111);
    }

    private static void hoursAsBits() {
        for (int told = 0; told < 24; told++) {
            NightSounds x = Check.with("source 0 7 1 " + (1 << told) + ";", "");
            NightSounds others = Check.with("source 0 7 1 " + (16777215 - (1 << told)) + ";", "");
            for (int hour = 0; hour < 24; hour++) {
                due("in hour " + told + " alone", x.at(0, 0, hour), hour == told ? 7 : 0);
                due("in all but hour " + told, others.at(0, 0, hour), hour == told ? 0 : 7);
            }
        }
    }

    /** "SOURCES likewise, 6"; FAULT 3, a SOURCE too many (at its word). */
    private static void sixSources() {
        NightSounds x = new NightSounds();
        StringBuilder text = new StringBuilder();
        Check.air(x, "");
        for (int i = 0; i < 6; i++) {
            Check.land(x, text.toString());
            due(i + " sources", x.told(2), i);
            text.append("source ").append(i).append(' ').append(50 + i).append(" 1 1;");
        }
        due("no houses", Check.land(x, text.toString()), 0);
        for (int i = 0; i < 6; i++) {
            due("level of " + i, x.loud(i, 0, i), 50 + i);
        }
        Check.noElement("no source 6", x, () -> x.loud(0, 0, 6));
        wrong(text + " source 0 1 1 1;", 3, text.length() + 1);
        wrong(text + "source", 3, text.length());
        wrong(text + "source 20;", 3, text.length());
        right(text + "house 0 0;");
    }

    /** "screen X T C (a wall at X, T high, instead of what is there)"; "C its coin, 1 to 99". */
    private static void screen() {
        number("screen ", 0, 19, " 1 1;");
        number("screen 0 ", 1, 9, " 1;");
        number("screen 0 1 ", 1, 99, ";");
        NightSounds x = Check.with("cells 40;wall 39 9;screen 39 1 1;screen 0 9 99;screen 0 8 1;");
        x.does(0);
        due("lower than what was there", x.cell(39, 2), 1);
        x.does(1);
        due("where none was", x.cell(0, 2), 9);
        x.does(2);
        due("instead of another screen", x.cell(0, 2), 8);
    }

    /** "tar A B C (CELLS A to B are water)". */
    private static void tar() {
        number("tar ", 0, 19, " 19 1;");
        number("tar 0 ", 0, 19, " 1;");
        number("tar 7 ", 7, 19, " 1;");
        number("tar 19 ", 19, 19, " 1;");
        number("tar 0 0 ", 1, 99, ";");
        NightSounds x = Check.with("ground 0 19 3 9;tar 5 5 1;tar 0 1 1;tar 18 19 1;tar 0 19 1;");
        x.does(0);
        due("one cell", x.cell(4, 0) * 100 + x.cell(5, 0) * 10 + x.cell(6, 0), 323);
        x.does(1);
        due("the first ones", x.cell(0, 0) * 100 + x.cell(1, 0) * 10 + x.cell(2, 0), 223);
        x.does(2);
        due("the last ones", x.cell(17, 0) * 100 + x.cell(18, 0) * 10 + x.cell(19, 0), 322);
        due("heights stay", x.cell(19, 1), 9);
        x.does(3);
        for (int i = 0; i < 20; i++) {
            due("all of them", x.cell(i, 0) * 10 + x.cell(i, 1), 29);
        }
    }

    /** "hush S V C (SOURCE S has V less LEVEL, 1 to 99; 0 at least)". */
    private static void hush() {
        String source = "source 0 50 1 1;";
        number(source + "hush ", 0, 0, " 1 1;");
        number("source 0 1 1 1;".repeat(6) + "hush ", 0, 5, " 1 1;");
        number(source + "hush 0 ", 1, 99, " 1;");
        number(source + "hush 0 1 ", 1, 99, ";");
        int[] less = {1, 49, 50, 51, 99};
        int[] levels = {49, 1, 0, 0, 0};
        for (int i = 0; i < less.length; i++) {
            NightSounds x = Check.with(source + "hush 0 " + less[i] + " 1;", "");
            x.does(0);
            due("50 less " + less[i], x.loud(0, 0, 0), levels[i]);
            due("its rays", x.ray(0, 0, 0, 0, 0), levels[i] == 0 ? -1 : 1);
        }
        NightSounds x = Check.with("source 0 120 1 1;hush 0 99 1;hush 0 20 1;hush 0 1 1;", "");
        x.does(0);
        x.does(1);
        due("both", x.loud(0, 0, 0), 1);
        x.does(2);
        due("all three", x.loud(0, 0, 0), 0);
    }

    /** "foam K V C (HOUSE K's EAR is V more, 1 to 30)". */
    private static void foam() {
        String house = "house 0 60;";
        number(house + "foam ", 0, 0, " 1 1;");
        number("house 0 0;".repeat(8) + "foam ", 0, 7, " 1 1;");
        number(house + "foam 0 ", 1, 30, " 1;");
        number(house + "foam 0 1 ", 1, 99, ";");
        NightSounds x = Check.with(house + "foam 0 30 1;".repeat(7) + "foam 0 1 1;");
        for (int work = 0; work < 8; work++) {
            x.does(work);
            due("its ear", x.ear(0), work < 7 ? 90 + 30 * work : 271);
        }
    }

    /** "a WORK (8 at most)"; FAULT 3, a WORK too many (at its word). */
    private static void eightWorks() {
        String[] works = {"screen 0 1 1;", "tar 0 0 1;", "hush 0 1 1;", "foam 0 1 1;"};
        String ahead = "source 0 1 1 1;house 0 0;";
        for (String work : works) {
            String seven = ahead + "tar 0 0 1;hush 0 1 1;screen 0 1 1;foam 0 1 1;foam 0 1 1;hush 0 1 1;tar 0 0 1;";
            NightSounds x = Check.with(seven);
            due("7 works", x.told(3), 7);
            Check.land(x, seven + work);
            due("8 works", x.told(3), 8);
            due("the last can be done", x.does(7), 1);
            Check.noElement("no work 8", x, () -> x.does(8));
            for (String more : works) {
                wrong(seven + work + " " + more, 3, seven.length() + work.length() + 1);
                wrong(seven + work + more.split(" ")[0], 3, seven.length() + work.length());
            }
            right(seven + work + "house 0 0;source 0 1 1 1;wall 0 1;hum 0 0;ground 0 0 0 0;");
        }
    }

    /** "S, K: told ahead". */
    private static void toldAhead() {
        wrong("hush 0 1 1;", 2, 5);
        wrong("hush 0 1 1;source 0 1 1 1;", 2, 5);
        wrong("source 0 1 1 1;hush 1 1 1;source 0 1 1 1;", 2, 20);
        right("source 0 1 1 1;source 0 1 1 1;hush 1 1 1;");
        wrong("house 0 0;hush 0 1 1;", 2, 15);
        wrong("foam 0 1 1;", 2, 5);
        wrong("foam 0 1 1;house 0 0;", 2, 5);
        wrong("house 0 0;foam 1 1 1;house 0 0;", 2, 15);
        right("house 0 0;house 0 0;foam 1 1 1;");
        wrong("source 0 1 1 1;foam 0 1 1;", 2, 20);
    }

    /** A CELL that a CLAUSE names is one of this LAND. */
    private static void xOfEachLand() {
        for (int many : new int[] {8, 40}) {
            String cells = "cells " + many + ";";
            int last = many - 1;
            number(cells + "ground ", 0, last, " " + last + " 0 0;");
            number(cells + "ground 0 ", 0, last, " 0 0;");
            number(cells + "wall ", 0, last, " 1;");
            number(cells + "house ", 0, last, " 0;");
            number(cells + "source ", 0, last, " 1 1 1;");
            number(cells + "screen ", 0, last, " 1 1;");
            number(cells + "tar ", 0, last, " " + last + " 1;");
            number(cells + "tar 0 ", 0, last, " 1;");
        }
        NightSounds x = Check.with("cells 40;wall 39 1;");
        due("an earlier land's cells do not count", Check.land(x, "wall 20 1;"), -8);
        due("at the number", x.fault(), 5);
    }

    /** "Numbers: digits, as many as stand there". */
    private static void digitsAsManyAsStandThere() {
        right("wall " + "0".repeat(580) + "19 1;");
        wrong("wall " + "0".repeat(580) + "20 1;", 2, 5);
        wrong("wall " + "9".repeat(590) + " 1;", 2, 5);
        wrong("wall 001;", 1, 8);
        wrong("wall 1 9/;", 1, 8);
        wrong("wall 1 9:;", 1, 8);
        wrong("wall 1 /9;", 1, 7);
        wrong("wall 1 :9;", 1, 7);
        wrong("wall 1 9.0;", 1, 8);
        wrong("wall 1 9a;", 1, 8);
    }

    /** "WORDS: small letters, as many as stand there". */
    private static void wordsAsLongAsTheyAre() {
        for (String word : new String[] {"cells", "ground", "wall", "house", "hum", "source", "screen", "tar", "hush", "foam"}) {
            wrong(word.substring(0, word.length() - 1) + " 8 8 1 1;", 1, 0);
            wrong(word + "a 8 8 1 1;", 1, 0);
            wrong(word + "z", 1, 0);
            wrong("a" + word + " 8 8 1 1;", 1, 0);
            wrong(word.toUpperCase() + " 8 8 1 1;", 1, 0);
            wrong(word + "` 8 8 1 1;", 1, word.length());
            wrong(word + "{ 8 8 1 1;", 1, word.length());
            wrong(word + word + " 8 8 1 1;", 1, 0);
        }
        right("wall0 1;");
        right("wall00 1;house0 0;");
        wrong("wa ll 0 1;", 1, 0);
        wrong("layer 0 0;", 1, 0);
        wrong("weight 1;", 1, 0);
        wrong("fine 1;", 1, 0);
        wrong("`", 1, 0);
        wrong("{", 1, 0);
    }

    /** "blanks (32) may stand ahead of all these, and at the end". */
    private static void blanksAheadOfAll() {
        right("   ground   1   2   3   4   ;   wall   1   2   ;   ");
        right("ground1 2 3 4;wall1 2;");
        wrong("ground 1 2 3 4; ;", 1, 16);
        wrong("wall 1 0 1;", 2, 7);
        wrong("  wall   20 1;", 2, 9);
        wrong("  wall   2   x", 1, 13);
        wrong("  wall   2   ", 1, 13);
        NightSounds x = Check.with("  cells  8  ;  wall  07  09  ;  ");
        due("its cells", x.told(0), 8);
        due("its wall", x.cell(7, 2), 9);
    }

    private static void blanksAloneAre32() {
        for (int sign : new int[] {0, 9, 10, 13, 31, 33, 127, 128, 160, 255}) {
            String other = String.valueOf((char) sign);
            wrong(other + WALL, 1, 0);
            wrong("wall" + other + "0 1;", 1, 4);
            wrong("wall 0" + other + "1;", 1, 6);
            wrong("wall 0 1" + other + ";", 1, 8);
            wrong(WALL + other, 1, 9);
            wrong(WALL + " " + other, 1, 10);
        }
    }

    /** FAULT 1 "at the length, if the text ends too early": of each CLAUSE all that is not whole. */
    private static void endsTooEarly() {
        endsWithin("", "cells 9;");
        endsWithin("cells 9; ", "ground 1 2 3 4;");
        endsWithin("", "wall 1 2;");
        endsWithin("", "house 1 2;");
        endsWithin("", "hum 1 2;");
        endsWithin("", "source 1 2 3 4;");
        endsWithin("", "screen 1 2 3;");
        endsWithin("", "tar 1 2 3;");
        endsWithin("source 1 2 3 4;", "hush 0 2 3;");
        endsWithin("house 1 2;  ", "foam 0 2 3;");
    }

    private static void endsWithin(String ahead, String clause) {
        int word = clause.indexOf(' ');
        for (int n = 1; n < clause.length(); n++) {
            NightSounds x = new NightSounds();
            Check.feed(x, ahead + clause);
            due("too early " + n + " of " + clause, x.land(ahead.length() + n), -9);
            due("where " + n + " of " + clause + " ends", x.fault(), ahead.length() + (n < word ? 0 : n));
        }
        right(ahead + clause);
    }

    /** FAULT 1: a number more than the CLAUSE has. */
    private static void tooMuch() {
        wrong("cells 9 1;", 1, 8);
        wrong("ground 1 2 3 4 5;", 1, 15);
        wrong("wall 1 2 3;", 1, 9);
        wrong("house 1 2 3;", 1, 10);
        wrong("hum 1 2 3;", 1, 8);
        wrong("source 1 2 3 4 5;", 1, 15);
        wrong("screen 1 2 3 4;", 1, 13);
        wrong("tar 1 2 3 4;", 1, 10);
        wrong("source 1 2 3 4;hush 0 2 3 4;", 1, 26);
        wrong("house 1 2;foam 0 2 3 4;", 1, 21);
        wrong("cells;", 1, 5);
        wrong("ground 1 2 3;", 1, 12);
        wrong("wall 1;", 1, 6);
    }

    /** "the first from the left". */
    private static void firstFromTheLeft() {
        wrong("wall 20 10;", 2, 5);
        wrong("wall 20 x;", 2, 5);
        wrong("wall x 20;", 1, 5);
        wrong("wall 0 10;cells 9;", 2, 7);
        wrong("wall 0 1;cells 9;x", 4, 9);
        wrong("wall 0 1;x;cells 9;", 1, 9);
        wrong("ground 5 4 9 99;", 2, 9);
        wrong("ground 0 0 9 99;", 2, 11);
        wrong("house 0 0;".repeat(9) + "x", 3, 80);
        wrong("house 0 61;" + "house 0 0;".repeat(9), 2, 8);
        wrong("cells 7;cells 9;", 2, 6);
    }

    /** "of one the least". */
    private static void ofOneTheLeast() {
        wrong(WALL.repeat(60) + "cells 9;", 3, 540);
        wrong(WALL.repeat(60) + "call 9;", 1, 540);
        wrong(WALL.repeat(60) + "x", 1, 540);
        wrong(WALL.repeat(60) + "9", 1, 540);
        wrong("house 0 0;".repeat(8) + WALL.repeat(52) + "house 0 0;", 3, 548);
        wrong(WALL.repeat(60) + "hush 0 1 1;", 3, 540);
    }

    /** "or the FAULT less 10 (all stays)", each FAULT. */
    private static void faultLeavesAll() {
        String[] texts = {"house 1 1;house 1 1;x", "cells 41;", "house 1 1;".repeat(9), "house 1 1;cells 40;"};
        for (int i = 0; i < texts.length; i++) {
            NightSounds x = Check.with("cells 9;house 8 7;wall 5 5;ground 3 3 3 3;hum 4 4;source 1 9 1 1;foam 0 3 1;", "");
            x.does(0);
            x.tell(0, 99);
            x.click(4);
            x.image();
            due("fault " + (i + 1), Check.land(x, texts[i]), i - 9);
            due("cells", x.told(0), 9);
            due("houses", x.told(1), 1);
            due("ear", x.ear(0), 10);
            due("walls", x.cell(5, 2), 5);
            due("grounds", x.cell(3, 0) * 10 + x.cell(3, 1), 33);
            due("hums", x.hum(0), 4);
            due("loud", x.loud(1, 0, 0), 9);
            due("works", x.count(0), 1);
            due("clicks", x.count(1), 1);
            due("images", x.count(2), 1);
            due("times", x.tell(0, 1), 99);
            due("airs", x.told(4), 1);
            due("the tape is empty", x.count(3), 0);
            due("restored", x.restore(), 0);
            due("times again", x.tell(0, 1), 99);
        }
    }
}
