/** The bounds that the document names for NIGHTS, WORKS, BELLS, SAYINGS, BANGS and WAGONS, a sentence each (18 to 32). */
public final class NightBoundsTest {
    private static final int ALL_HOURS = 16777215;

    /** A LAND with a wall 5 high: LOUD by 77 at CELL 5 by this AIR, by 0 by one that bends nothing. */
    private static final String OVER = "layer 2 0;layer 3 0;layer 4 0;layer 5 0;";

    public static void main(String[] args) {
        nightsInWhich();
        allWeights();
        hoursOf22To5();
        fiveMoreThanThat();
        twiceOrMore();
        meanIsCut();
        meanWithout();
        louderThanALimit();
        meanIsNot();
        leastOfNothing();
        leastNone();
        leastOfAllEight();
        leastOfTheseTheLeastBits();
        leastByEachAirAndHour();
        leastDoneByNumber();
        leastNotDoneYet();
        boundOfOneAlone();
        boundNone();
        helpsLessLoud();
        helpsInsteadOfWhatIsThere();
        helpsAllHouses();
        bellPlaces();
        bellFirstCell();
        bellLevels();
        bellNowhere();
        whichToldOnes();
        whichAllAirs();
        sayingLeastTerms();
        sayingNoSuchAirs();
        Check.end();
    }

    private static void due(String what, long got, long want) {
        Check.due(what, got, want);
    }

    private static String times(int many, String air) {
        return "weight " + many + ";" + air;
    }

    /** "of all AIRS' weights together those in which a HOUSE HEARS in an hour". */
    private static void nightsInWhich() {
        NightSounds x = Check.with("cells 8;source 0 100 1 8388609;wall 1 5;house 5 60;house 5 17;hum 0 17;hum 23 18;",
                times(99, OVER), times(98, ""), times(1, OVER));
        due("77 of 77", x.nights(0, 0, 0), 100);
        due("77 of 78", x.nights(0, 23, 0), 0);
        due("in hour 23", x.nights(1, 23, 0), 100);
        due("silent", x.nights(1, 22, 0), 0);
        x = Check.with("house 0 9;source 0 9 1 1;", times(99, ""), times(99, ""), times(99, ""), times(99, ""), times(99, ""),
                times(99, ""));
        due("all of them", x.nights(0, 0, 0), 594);
    }

    /** "all weights (1; 0 without AIRS)". */
    private static void allWeights() {
        NightSounds x = Check.with("house 0 9;source 0 9 1 1;");
        due("without airs", x.nights(0, 0, 1), 0);
        due("in which, without airs", x.nights(0, 0, 0), 0);
        Check.air(x, "weight 99;");
        due("one", x.nights(0, 0, 1), 99);
        due("in an hour without", x.nights(0, 23, 1), 99);
    }

    /** "It WAKES in an hour of 22 to 5". */
    private static void hoursOf22To5() {
        for (int hour = 0; hour < 24; hour++) {
            NightSounds x = Check.with("house 0 0;source 0 5 1 " + (1 << hour) + ";", "");
            due("in hour " + hour, x.wakes(0, 0), hour >= 22 || hour <= 5 ? 1 : 0);
        }
        due("in all", Check.with("house 0 0;source 0 5 1 " + ALL_HOURS + ";", "").wakes(0, 0), 8);
        int night = 1 << 22 | 1 << 23 | 63;
        due("by day", Check.with("house 0 0;source 0 120 1 " + (ALL_HOURS - night) + ";", "").wakes(0, 0), 0);
        due("by night", Check.with("house 0 0;source 0 120 1 " + night + ";", "").wakes(0, 0), 8);
    }

    /** "in which it is LOUD by 5 more than that (EAR, HUM and 5; 1 at least)". */
    private static void fiveMoreThanThat() {
        int[][] rows = {{0, 0, 4, 0}, {0, 0, 5, 1}, {60, 40, 104, 0}, {60, 40, 105, 1}, {7, 0, 11, 0}, {7, 0, 12, 1},
            {0, 9, 13, 0}, {0, 9, 14, 1}, {0, 0, 1, 0}};
        for (int[] row : rows) {
            NightSounds x = Check.with("house 3 " + row[0] + ";hum 0 " + row[1] + ";source 3 " + row[2] + " 1 1;", "");
            due(row[0] + ", " + row[1] + " and 5 by " + row[2], x.wakes(0, 0), row[3]);
        }
        NightSounds x = Check.with("house 3 0;source 3 1 1 1;hush 0 1 1;", "");
        x.does(0);
        due("by nothing", x.wakes(0, 0), 0);
    }

    /** "it sleeps BADLY, if it WAKES twice or more in a night". */
    private static void twiceOrMore() {
        int[] hours = {1 << 12, 1, 3, 1 << 22 | 1 << 5, 7, ALL_HOURS, 1 << 21 | 1 << 6 | 1};
        int[] due = {0, 0, 7, 7, 7, 7, 0};
        for (int i = 0; i < hours.length; i++) {
            NightSounds x = Check.with("house 3 0;source 3 5 1 " + hours[i] + ";", "weight 7;");
            due("in hours " + hours[i], x.badly(0), due[i]);
        }
        due("without airs", Check.with("house 3 0;source 3 5 1 3;").badly(0), 0);
        NightSounds x = Check.with("cells 8;source 0 100 1 3;wall 1 5;house 5 60;", times(9, OVER), times(7, ""),
                times(80, OVER));
        due("of airs by which it does", x.badly(0), 89);
        x = Check.with("house 3 0;source 3 5 1 3;", times(99, ""), times(99, ""), times(99, ""), times(99, ""), times(99, ""),
                times(99, ""));
        due("by all six", x.badly(0), 594);
    }

    /** "MEAN: LOUD by weights, cut". */
    private static void meanIsCut() {
        int[][] rows = {{1, 1, 38}, {1, 2, 25}, {2, 1, 51}, {1, 76, 1}, {1, 77, 0}, {99, 1, 76}, {1, 99, 0}, {10, 1, 70}};
        for (int[] row : rows) {
            NightSounds x = Check.with("cells 8;source 0 100 1 1;wall 1 5;house 5 60;", times(row[0], OVER), times(row[1], ""));
            due("77 by " + row[0] + " of " + (row[0] + row[1]), x.mean(0, 0), row[2]);
            due("in an hour without", x.mean(0, 1), 0);
        }
        due("of one", Check.with("house 3 0;source 3 120 1 1;", "weight 99;").mean(0, 0), 120);
        due("of six", Check.with("house 3 0;source 3 120 1 1;", times(99, ""), times(1, ""), times(99, ""), times(50, ""),
                times(99, ""), times(99, "")).mean(0, 0), 120);
    }

    /** "NONE without AIRS". */
    private static void meanWithout() {
        NightSounds x = Check.with("house 3 0;source 3 120 1 1;");
        due("without airs", x.mean(0, 0), -1);
        Check.noElement("but no house", x, () -> x.mean(1, 0));
        Check.noArgument("nor hour", x, () -> x.mean(0, 24));
        due("by a limit", x.hides(0, 0, 0), 0);
        due("by the greatest limit", x.hides(0, 0, 120), 0);
    }

    /** "an AIR is HIDDEN, if it is LOUDER than a told limit by it". */
    private static void louderThanALimit() {
        NightSounds x = Check.with("cells 8;source 0 100 1 1;wall 1 5;house 5 60;", times(1, ""), times(1, OVER), times(99, ""));
        due("77 by 76", x.hides(0, 0, 76), 2);
        due("77 by 77", x.hides(0, 0, 77), 0);
        due("0 by 0", x.hides(0, 1, 0), 0);
        due("77 by 0", x.hides(0, 0, 0), 2);
        due("by 120", x.hides(0, 0, 120), 0);
        x = Check.with("house 3 0;source 3 120 1 1;", "");
        due("120 by 119: so is the mean", x.hides(0, 0, 119), 0);
        due("120 by 120", x.hides(0, 0, 120), 0);
    }

    /** "though the MEAN is not". */
    private static void meanIsNot() {
        NightSounds x = Check.with("cells 8;source 0 100 1 1;wall 1 5;house 5 60;", times(2, OVER), times(1, ""), times(1, OVER),
                times(1, OVER), times(1, OVER), times(1, OVER));
        due("the mean is 66", x.mean(0, 0), 66);
        due("by 66", x.hides(0, 0, 66), 1 + 4 + 8 + 16 + 32);
        due("by 65", x.hides(0, 0, 65), 0);
    }

    private static void least(String what, NightSounds x, int houses, int coin, int bits) {
        due(what + ", coin", x.least(0, 0, houses, 0), coin);
        due(what + ", bits", x.least(0, 0, houses, 1), bits);
    }

    /** No WORK is needed: the empty set. */
    private static void leastOfNothing() {
        least("without works and houses", Check.with("", ""), 0, 0, 0);
        least("silent", Check.with("house 3 8;source 3 7 1 1;foam 0 1 1;", ""), 1, 0, 0);
        least("none told", Check.with("house 3 7;source 3 7 1 1;foam 0 1 1;", ""), 0, 0, 0);
        NightSounds x = Check.with("house 3 7;source 3 7 1 1;foam 0 1 1;", "");
        due("an hour without", x.least(0, 23, 1, 0), 0);
        Check.noArgument("bits of no houses", x, () -> x.least(0, 0, 2, 0));
        Check.noArgument("bits of more houses", x, () -> x.least(0, 0, 3, 0));
        Check.noArgument("the highest bit", x, () -> x.least(0, 0, Integer.MIN_VALUE, 0));
    }

    /** "NONE: none does". */
    private static void leastNone() {
        least("without works", Check.with("house 3 7;source 3 7 1 1;", ""), 1, -1, -1);
        least("too little", Check.with("house 3 6;source 3 7 1 1;foam 0 1 1;", ""), 1, -1, -1);
        least("just enough", Check.with("house 3 6;source 3 7 1 1;foam 0 2 9;", ""), 1, 9, 1);
        least("for one of two", Check.with("house 3 7;house 3 6;source 3 7 1 1;foam 0 1 5;", ""), 1, 5, 1);
        least("for both of two", Check.with("house 3 7;house 3 6;source 3 7 1 1;foam 0 1 5;", ""), 3, -1, -1);
    }

    /** All eight WORKS are needed, for 8 times the greatest coin; all but one, if one is done. */
    private static void leastOfAllEight() {
        NightSounds x = Check.with("house 3 0;source 3 7 1 1;" + "foam 0 1 99;".repeat(8), "");
        least("all eight", x, 1, 792, 255);
        x.does(0);
        least("the other seven", x, 1, 693, 254);
        x.does(7);
        least("the other six", x, 1, 594, 126);
        for (int work = 1; work < 7; work++) {
            x.does(work);
        }
        least("all are done", x, 1, 0, 0);
        x = Check.with("house 3 0;source 3 8 1 1;" + "foam 0 1 99;".repeat(8), "");
        least("even all are too little", x, 1, -1, -1);
        x = Check.with("house 3 0;".repeat(8) + "source 3 7 1 1;hush 0 7 99;", "");
        least("for all eight houses", x, 255, 99, 1);
    }

    /** "the one of the least coin .., of these the least (bits)". */
    private static void leastOfTheseTheLeastBits() {
        String land = "house 3 7;source 3 7 1 1;";
        least("two as dear", Check.with(land + "foam 0 1 5;foam 0 2 5;", ""), 1, 5, 1);
        least("the second is less dear", Check.with(land + "foam 0 1 5;foam 0 1 4;", ""), 1, 4, 2);
        least("the last of eight", Check.with(land + "foam 0 1 2;".repeat(7) + "foam 0 1 1;", ""), 1, 1, 128);
        least("one of 4, two of 2", Check.with("house 3 6;source 3 7 1 1;foam 0 1 2;foam 0 1 2;foam 0 2 4;", ""), 1, 4, 3);
        least("one of 4, ahead of two of 2", Check.with("house 3 6;source 3 7 1 1;foam 0 2 4;foam 0 1 2;foam 0 1 2;", ""),
                1, 4, 1);
        least("one of 3, two of 2", Check.with("house 3 6;source 3 7 1 1;foam 0 1 2;foam 0 1 2;foam 0 2 3;", ""), 1, 3, 4);
    }

    /** One AIR after another, one hour after another: each has its own. */
    private static void leastByEachAirAndHour() {
        NightSounds x = Check.with("cells 8;source 0 100 1 3;source 0 120 1 2;wall 1 5;house 5 60;foam 0 18 7;foam 0 20 9;",
                "", OVER);
        for (int i = 0; i < 2; i++) {
            due("silent by one", x.least(0, 0, 1, 0), 0);
            due("77 by the other", x.least(1, 0, 1, 0), 7);
            due("97 in hour 1", x.least(1, 1, 1, 0), 16);
            due("silent in hour 1", x.least(0, 1, 1, 0), 0);
            due("none in hour 2", x.bound(1, 2, 1), 0);
            due("the bound in hour 1", x.bound(1, 1, 1), 16);
            due("the bound in hour 0", x.bound(1, 0, 1), 7);
        }
    }

    /** "(done by number)": of two walls at one CELL the one with the greater number stands. */
    private static void leastDoneByNumber() {
        String land = "cells 8;source 0 30 1 1;house 3 0;";
        least("the low one is not built", Check.with(land + "screen 1 9 2;screen 1 1 1;", ""), 1, 2, 1);
        least("the high one alone", Check.with(land + "screen 1 1 1;screen 1 9 2;", ""), 1, 2, 2);
        NightSounds x = Check.with(land + "screen 1 9 2;screen 1 1 1;", "");
        x.does(0);
        x.does(1);
        least("the low one was built last", x, 1, -1, -1);
        x = Check.with(land + "screen 1 9 2;screen 1 1 1;", "");
        x.does(1);
        x.does(0);
        least("the high one was built last", x, 1, 0, 0);
    }

    /** "of all sets of WORKS that are not done yet"; to look does nothing. */
    private static void leastNotDoneYet() {
        NightSounds x = Check.with("house 3 6;source 3 7 1 1;foam 0 1 5;foam 0 1 6;foam 0 1 7;", "");
        least("the first two", x, 1, 11, 3);
        due("none is done", x.count(0), 0);
        due("its ear", x.ear(0), 6);
        x.does(0);
        least("the second", x, 1, 6, 2);
        x.does(2);
        least("enough is done", x, 1, 0, 0);
        x.image();
        x.does(1);
        x.restore();
        least("as in the image", x, 1, 0, 0);
    }

    /** "BOUND: the most coin that is LEAST for one of them alone". */
    private static void boundOfOneAlone() {
        NightSounds x = Check.with("house 3 7;house 3 7;house 3 8;source 3 7 1 1;foam 0 1 5;foam 1 1 99;hush 0 1 98;", "");
        due("none told", x.bound(0, 0, 0), 0);
        due("the first", x.bound(0, 0, 1), 5);
        due("the second", x.bound(0, 0, 2), 98);
        due("who hears nothing", x.bound(0, 0, 4), 0);
        due("all three", x.bound(0, 0, 7), 98);
        due("least of the two", x.least(0, 0, 3, 0), 98);
        due("in an hour without", x.bound(0, 1, 7), 0);
        Check.noArgument("bits of no houses", x, () -> x.bound(0, 0, 8));
        Check.noArgument("all bits", x, () -> x.bound(0, 0, -1));
        NightSounds full = Check.with("house 3 7;".repeat(8) + "source 3 7 1 1;foam 7 1 99;foam 6 1 9;", "");
        due("the last alone", full.bound(0, 0, 128), 99);
        due("the two last", full.bound(0, 0, 192), 99);
        due("all eight", full.bound(0, 0, 255), -1);
    }

    /** "NONE: one of them has none". */
    private static void boundNone() {
        NightSounds x = Check.with("house 3 7;house 3 0;source 3 7 1 1;foam 0 1 5;foam 1 7 5;", "");
        due("the one that has", x.bound(0, 0, 1), 5);
        due("the one that has none", x.bound(0, 0, 2), -1);
        due("both", x.bound(0, 0, 3), -1);
        due("without works", Check.with("house 3 7;source 3 7 1 1;", "").bound(0, 0, 1), -1);
    }

    /** "the HOUSES at which it is less LOUD, if a wall is told so; by how much together". */
    private static void helpsLessLoud() {
        NightSounds x = Check.with("cells 8;source 0 50 1 1;house 1 60;house 0 0;house 2 0;house 7 0;", "");
        due("behind a wall of 9", x.helps(1, 0, 0, 9, 0), 1 + 4 + 8);
        due("43, 36 and 25", x.helps(1, 0, 0, 9, 1), 43 + 36 + 25);
        due("a wall of 1", x.helps(1, 0, 0, 1, 0), 0);
        due("it helps by nothing", x.helps(1, 0, 0, 1, 1), 0);
        due("at the last cell", x.helps(7, 0, 0, 9, 0), 8);
        due("by all it was", x.helps(7, 0, 0, 9, 1), 25);
        due("at the first cell", x.helps(0, 0, 0, 9, 0), 0);
        due("in an hour without", x.helps(1, 0, 23, 9, 0), 0);
        due("without houses", Check.with("cells 8;source 0 50 1 1;", "").helps(1, 0, 0, 9, 0), 0);
        due("no wall is built", x.cell(1, 2), 0);
        NightSounds one = Check.with("cells 8;source 0 8 1 1;house 1 0;", "");
        due("less by 1", one.helps(1, 0, 0, 9, 0), 1);
        due("by 1 together", one.helps(1, 0, 0, 9, 1), 1);
    }

    /** "instead of what is there": a lower wall makes it louder, which is no help. */
    private static void helpsInsteadOfWhatIsThere() {
        NightSounds x = Check.with("cells 8;source 0 50 1 1;source 7 20 1 1;wall 1 9;house 2 0;house 7 0;", "");
        for (int t = 1; t <= 9; t++) {
            due("a wall of " + t, x.helps(1, 0, 0, t, 0), 0);
            due("by nothing", x.helps(1, 0, 0, t, 1), 0);
        }
        due("the wall stays", x.cell(1, 2), 9);
        x = Check.with("cells 8;source 0 50 1 1;wall 1 1;house 2 0;", "");
        due("as low as it is", x.helps(1, 0, 0, 1, 1), 0);
        due("higher", x.helps(1, 0, 0, 9, 1), 36);
    }

    private static void helpsAllHouses() {
        NightSounds x = Check.with("cells 8;source 0 120 1 1;" + "house 1 0;".repeat(8), "");
        due("all eight", x.helps(1, 0, 0, 9, 0), 255);
        due("8 times 113", x.helps(1, 0, 0, 9, 1), 904);
    }

    /** "of PLACES 1 to 9 above the ground the lowest from which told HOUSES all HEAR it alone". */
    private static void bellPlaces() {
        // It must hang over CELL 0 for the first HOUSE; over the wall, and down to 2 or less, for the second.
        int[] due = {100, 200, 400, 600, 800, -1, -1, -1, -1};
        for (int high = 1; high <= 9; high++) {
            NightSounds x = Check.with("cells 8;house 0 20;house 2 0;wall 1 " + high + ";", "");
            due("over a wall of " + high, x.bell(0, 0, 20, 1, 3), due[high - 1]);
        }
        due("9 does", Check.with("cells 8;house 0 20;house 2 0;wall 1 6;ground 2 2 0 1;", "").bell(0, 0, 20, 1, 3), 900);
        due("10 would", Check.with("cells 8;house 0 20;house 2 0;wall 1 7;ground 2 2 0 2;", "").bell(0, 0, 20, 1, 3), -1);
        NightSounds high = Check.with("cells 8;ground 0 0 0 9;house 0 30;house 3 0;", "");
        due("above the ground of its cell", high.bell(0, 0, 30, 1, 3), 100);
    }

    /** "of these the first CELL": the PLACE counts ahead of it. */
    private static void bellFirstCell() {
        NightSounds x = Check.with("cells 40;house 5 0;house 39 0;house 0 0;wall 1 9;wall 38 9;", "");
        due("three cells do", x.bell(0, 0, 8, 1, 1), 104);
        due("one does", x.bell(0, 0, 7, 1, 1), 105);
        due("the last", x.bell(0, 0, 7, 1, 2), 139);
        due("the last but one", x.bell(0, 0, 8, 1, 2), 138);
        due("the first", x.bell(0, 0, 8, 1, 4), 100);
        x = Check.with("cells 8;house 5 0;wall 4 3;", "");
        due("700 would do too", x.bell(0, 0, 120, 1, 1), 104);
        due("no houses", x.bell(0, 0, 1, 3, 0), 100);
    }

    /** "LEVEL 1 to 120, PITCH 1 to 3". */
    private static void bellLevels() {
        NightSounds x = Check.with("cells 8;house 5 0;house 5 60;hum 0 40;hum 12 0;", "");
        for (int pitch = 1; pitch <= 3; pitch++) {
            due("just one cell away", x.bell(0, 12, 7 + pitch, pitch, 1), 104);
            due("none away", x.bell(0, 12, 6 + pitch, pitch, 1), 105);
            due("the least", x.bell(0, 12, 1, pitch, 1), 105);
            // Three CELLS away it is 105, 102, 99; two away 106, 104, 102.
            due("the greatest, of 60 and 40", x.bell(0, 0, 120, pitch, 3), pitch < 3 ? 102 : 103);
        }
        due("just 100", x.bell(0, 0, 100, 1, 3), 105);
        due("99", x.bell(0, 0, 99, 1, 3), -1);
        due("76 of 60 in an hour of 0", x.bell(0, 12, 99, 1, 3), 100);
    }

    /** "NONE: nowhere"; it is heard alone, whatever else sounds. */
    private static void bellNowhere() {
        due("too far apart", Check.with("cells 40;house 0 0;house 39 0;", "").bell(0, 0, 40, 1, 3), -1);
        due("one of them", Check.with("cells 40;house 0 0;house 39 0;", "").bell(0, 0, 1, 1, 2), 139);
        NightSounds walled = Check.with("cells 40;house 37 0;house 39 0;wall 38 9;wall 39 9;", "");
        due("walls about the last", walled.bell(0, 0, 120, 1, 3), -1);
        NightSounds x = Check.with("cells 8;house 5 5;source 5 120 1 1;", "");
        due("4 of 5", x.bell(0, 0, 4, 1, 1), -1);
        due("5 of 5", x.bell(0, 0, 5, 1, 1), 105);
        due("all eight", Check.with("house 9 5;".repeat(8), "").bell(0, 0, 5, 1, 255), 109);
        due("all but the last", Check.with("house 9 5;".repeat(7) + "house 9 6;", "").bell(0, 0, 5, 1, 127), 109);
        due("with the last", Check.with("house 9 5;".repeat(7) + "house 9 6;", "").bell(0, 0, 5, 1, 255), -1);
    }

    /** "AIRS by which a HOUSE would HEAR just some SOURCES in an hour .., of told ones: of each told yes or no". */
    private static void whichToldOnes() {
        NightSounds x = Check.with("house 5 9;hum 23 1;hum 0 0;source 5 9 1 1;source 5 8 1 1;source 5 9 1 2;source 5 10 1 3;"
                + "source 5 9 1 8388608;source 5 10 1 8388608;", "");
        due("9 of 9", x.which(0, 0, 1, 1), 1);
        due("8 of 9", x.which(0, 0, 2, 2), 0);
        due("silent then", x.which(0, 0, 4, 4), 0);
        due("silent then, not heard", x.which(0, 0, 4, 0), 1);
        due("of all six just two", x.which(0, 0, 63, 9), 1);
        due("one too few", x.which(0, 0, 63, 8), 0);
        due("one too many", x.which(0, 0, 63, 11), 0);
        due("of the last two, with a hum", x.which(0, 23, 48, 32), 1);
        due("none told", x.which(0, 0, 0, 0), 1);
        Check.noArgument("a seventh", x, () -> x.which(0, 0, 64, 0));
        Check.noArgument("heard, not told", x, () -> x.which(0, 0, 62, 1));
        Check.noArgument("heard below 0", x, () -> x.which(0, 0, 63, Integer.MIN_VALUE));
    }

    /** "AIRS, as bits": none, and all six. */
    private static void whichAllAirs() {
        NightSounds x = Check.with("cells 8;source 0 100 1 1;wall 1 5;house 5 60;", OVER, "", OVER, "", "", OVER);
        due("heard by three", x.which(0, 0, 1, 1), 0b100101);
        due("not by three", x.which(0, 0, 1, 0), 0b011010);
        due("all", x.which(0, 0, 0, 0), 63);
        due("none", x.which(0, 1, 1, 1), 0);
        due("without airs", Check.with("house 0 0;source 0 9 1 1;").which(0, 0, 1, 1), 0);
        due("without airs and sources", Check.with("house 0 0;").which(0, 0, 0, 0), 0);
    }

    private static void saying(String what, NightSounds x, int hour, int... due) {
        for (int i = 0; i < 4; i++) {
            due(what + ", " + i, x.saying(0, 0, hour, i), due[i]);
        }
    }

    /** "(fractions in least terms)". */
    private static void sayingLeastTerms() {
        String land = "cells 8;source 0 100 1 1;wall 1 5;house 5 60;";
        saying("always, and never", Check.with(land, "fine 8;" + OVER, "fine 0;"), 0, 1, 1, 0, 1);
        saying("never, and always", Check.with(land, "fine 0;weight 99;" + OVER, "fine 8;weight 98;"), 0, 0, 1, 1, 1);
        saying("no common part", Check.with(land, "fine 7;weight 99;" + OVER, "fine 1;weight 97;"), 0, 7, 8, 1, 8);
        saying("weights", Check.with(land, "fine 8;weight 1;" + OVER, "fine 5;", "fine 0;weight 2;" + OVER, "fine 6;"), 0,
                1, 3, 11, 16);
        saying("the greatest weights", Check.with(land, "fine 8;weight 99;" + OVER, "fine 7;weight 99;" + OVER,
                "fine 8;weight 99;" + OVER, "fine 8;weight 99;" + OVER, "fine 8;weight 99;" + OVER, "fine 8;weight 98;" + OVER),
                0, 4645, 4744, 0, 1);
        saying("just heard, 77 of 77", Check.with(land + "hum 0 17;", "fine 3;" + OVER), 0, 3, 8, 0, 1);
        saying("not heard, 77 of 78", Check.with(land + "hum 0 18;", "fine 3;" + OVER), 0, 0, 1, 3, 8);
    }

    /** "(0 by 1, if there are no such AIRS)". */
    private static void sayingNoSuchAirs() {
        saying("without airs", Check.with("house 0 0;source 0 9 1 1;"), 0, 0, 1, 0, 1);
        saying("all hear it", Check.with("house 0 0;source 0 9 1 1;", "fine 3;"), 0, 3, 8, 0, 1);
        saying("none hears it", Check.with("house 0 0;source 0 9 1 1;", "fine 3;"), 1, 0, 1, 3, 8);
    }
}
