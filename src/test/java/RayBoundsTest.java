/** The bounds that the document's terms name for RAYS, LOUD, HEARS and ZONES, a sentence each (promises 11 to 17). */
public final class RayBoundsTest {
    private static final int RIGHT = 0;
    private static final int LEFT = 1;

    public static void main(String[] args) {
        oneAboveTheGround();
        slopesAtFirst();
        steepestUp();
        steepestDown();
        onTheGround();
        slopeBelowNought();
        groundEats();
        above24();
        belowTheWallsTop();
        wallAtTheSource();
        airEats();
        nothingLeft();
        nothingLeftOnSnow();
        twoAboveTheGround();
        windByDirection();
        heldTo6();
        heldToMinus6();
        heldBehindBoth();
        landEnds();
        levelNought();
        mostOfItsRays();
        whereItStands();
        mostOfAllSources();
        hearsByOne();
        hearsByEarAndHum();
        hearsAll();
        zonesBetween();
        zonesInThatDirection();
        zonesToTheEnds();
        noZones();
        whyNotAtAll();
        whyOfAllCells();
        Check.end();
    }

    private static void due(String what, long got, long want) {
        Check.due(what, got, want);
    }

    /** The PLACES, and what is left, of a RAY of the only SOURCE. */
    private static void along(NightSounds x, int direction, int slope, int[] places, int[] rests) {
        for (int i = 0; i < places.length; i++) {
            due("place of slope " + slope + " at " + i, x.ray(0, 0, direction, slope, i), places[i]);
            due("left of slope " + slope + " at " + i, x.left(0, 0, direction, slope, i), rests[i]);
        }
    }

    private static void loud(NightSounds x, int... due) {
        for (int i = 0; i < due.length; i++) {
            due("loud at " + i, x.loud(i, 0, 0), due[i]);
        }
    }

    /** "PLACE above the ground of its CELL (1; ..)". */
    private static void oneAboveTheGround() {
        for (int height = 0; height <= 9; height++) {
            NightSounds x = Check.with("ground 3 3 0 " + height + ";source 3 9 1 1;", "");
            due("where it starts", x.ray(0, 0, RIGHT, -3, 0), height + 1);
            due("what it has", x.left(0, 0, LEFT, 6, 0), 9);
        }
    }

    /** "with a SLOPE of -3 to 6 at first each". */
    private static void slopesAtFirst() {
        NightSounds x = Check.with("ground 9 9 0 9;source 9 99 1 1;", "");
        for (int slope = -3; slope <= 6; slope++) {
            due("to the right", x.ray(0, 0, RIGHT, slope, 1), 10 + slope);
            due("to the left", x.ray(0, 0, LEFT, slope, 1), 10 + slope);
        }
        Check.noArgument("-4", x, () -> x.ray(0, 0, RIGHT, -4, 0));
        Check.noArgument("7", x, () -> x.ray(0, 0, RIGHT, 7, 0));
        Check.noArgument("-4, left", x, () -> x.left(0, 0, RIGHT, -4, 0));
        Check.noArgument("7, left", x, () -> x.left(0, 0, RIGHT, 7, 0));
    }

    /** LOUD goes by SLOPES up to 6: that one comes over a wall of 7, none over one of 8. */
    private static void steepestUp() {
        String air = "wind 0;layer 3 0;layer 4 0;";
        NightSounds x = Check.with("wall 1 7;source 0 99 1 1;", air);
        along(x, RIGHT, 6, new int[] {1, 7, 9, 7, 1}, new int[] {99, 92, 85, 84, 77});
        loud(x, 99, 0, 0, 0, 77);
        x = Check.with("wall 1 8;source 0 99 1 1;", air);
        due("nor over 8", x.ray(0, 0, RIGHT, 6, 1), -1);
        loud(x, 99, 0, 0, 0, 0, 0, 0, 0);
    }

    /** LOUD goes by SLOPES from -3 on: from 10 none is down two CELLS away, -3 alone is three away. */
    private static void steepestDown() {
        NightSounds x = Check.with("ground 9 9 0 9;source 9 99 1 1;", "");
        int[] due = {0, 0, 84, 77};
        for (int i = 0; i < due.length; i++) {
            due("to the right " + (i + 1), x.loud(10 + i, 0, 0), due[i]);
            due("to the left " + (i + 1), x.loud(8 - i, 0, 0), due[i]);
        }
    }

    /** "if that is the ground's or less, it is the ground's .. and the ground eats". */
    private static void onTheGround() {
        int[] heights = {0, 1, 2, 9};
        int[] places = {1, 1, 2, 9};
        int[] rests = {92, 89, 89, 89};
        for (int i = 0; i < heights.length; i++) {
            NightSounds x = Check.with("ground 1 1 0 " + heights[i] + ";source 0 99 1 1;", "");
            due("level, over " + heights[i], x.ray(0, 0, RIGHT, 0, 1), places[i]);
            due("left over " + heights[i], x.left(0, 0, RIGHT, 0, 1), rests[i]);
        }
        NightSounds x = Check.with("ground 1 1 0 7;source 0 99 1 1;", "");
        due("6 up, as high as the ground", x.ray(0, 0, RIGHT, 6, 1), 7);
        due("it eats", x.left(0, 0, RIGHT, 6, 1), 89);
        due("below it", x.ray(0, 0, RIGHT, 5, 1), 7);
        x = Check.with("ground 1 1 0 6;source 0 99 1 1;", "");
        due("6 up, one above the ground", x.ray(0, 0, RIGHT, 6, 1), 7);
        due("it eats nothing", x.left(0, 0, RIGHT, 6, 1), 92);
    }

    /** "SLOPE below 0 is as much above 0"; 0, and what is above 0, stays. */
    private static void slopeBelowNought() {
        NightSounds x = Check.with("source 0 99 1 1;", "");
        along(x, RIGHT, -1, new int[] {1, 0, 1, 2}, new int[] {99, 89, 82, 81});
        along(x, RIGHT, -2, new int[] {1, 0, 2, 4}, new int[] {99, 89, 82, 81});
        along(x, RIGHT, -3, new int[] {1, 0, 3, 6}, new int[] {99, 89, 82, 81});
        x = Check.with("ground 1 1 0 5;source 0 99 1 1;", "");
        along(x, RIGHT, 0, new int[] {1, 5, 5, 5}, new int[] {99, 89, 82, 81});
        along(x, RIGHT, 2, new int[] {1, 5, 7, 9}, new int[] {99, 89, 82, 81});
        x = Check.with("source 5 99 1 1;", "wind 3;");
        along(x, LEFT, -1, new int[] {1, 0, 0, 0}, new int[] {99, 89, 79, 75});
    }

    /** "the ground eats 3 (grass), 6 (wood), 0 (water), 9 (snow)": of the CELL where it comes down alone. */
    private static void groundEats() {
        int[] eats = {3, 6, 0, 9};
        for (int kind = 0; kind < 4; kind++) {
            NightSounds x = Check.with("ground 0 19 " + kind + " 0;source 9 99 2 1;", "");
            for (int direction = 0; direction < 2; direction++) {
                due("down on " + kind, x.left(0, 0, direction, -1, 1), 99 - 8 - eats[kind]);
                due("up again", x.left(0, 0, direction, -1, 2), 99 - 16 - eats[kind]);
                due("level", x.left(0, 0, direction, 0, 2), 99 - 16);
            }
        }
    }

    /** "if it is above 24, it ends". */
    private static void above24() {
        for (int height = 4; height <= 6; height++) {
            NightSounds x = Check.with("ground 0 0 0 " + height + ";source 0 99 1 1;", "");
            due("up three times by 6", x.ray(0, 0, RIGHT, 6, 3), height == 6 ? -1 : height + 19);
            due("left then", x.left(0, 0, RIGHT, 6, 3), height == 6 ? 0 : 84);
            due("a fourth time", x.ray(0, 0, RIGHT, 6, 4), -1);
        }
        NightSounds x = Check.with("ground 0 0 0 9;source 0 120 1 1;", "layer 11 0;");
        along(x, RIGHT, 2, new int[] {10, 12, 14, 16, 18, 20, 22, 22, 20}, new int[] {120, 113, 106, 105, 98, 97, 96, 95, 88});
    }

    /** "if a wall stands there and it is below the wall's top (ground and T), it ends". */
    private static void belowTheWallsTop() {
        for (int high = 1; high <= 9; high++) {
            NightSounds x = Check.with("wall 1 " + high + ";source 0 99 1 1;", "");
            for (int slope = -3; slope <= 6; slope++) {
                int place = Math.max(0, 1 + slope);
                due("wall " + high + ", slope " + slope, x.ray(0, 0, RIGHT, slope, 1), place < high ? -1 : place);
            }
            NightSounds up = Check.with("ground 1 1 0 3;wall 1 " + high + ";source 0 99 1 1;", "");
            for (int slope = -3; slope <= 6; slope++) {
                int place = Math.max(3, 1 + slope);
                due("wall " + high + " on 3, slope " + slope, up.ray(0, 0, RIGHT, slope, 1), place < 3 + high ? -1 : place);
            }
        }
    }

    /** A RAY meets walls in CELLS away alone: not where it starts. */
    private static void wallAtTheSource() {
        NightSounds x = Check.with("cells 8;wall 3 9;source 3 99 1 1;", "");
        loud(x, 84, 85, 92, 99, 92, 85, 84, 77);
    }

    /** "the air eats its PITCH, and 6 at the 1st, 2nd, 4th, 8th, 16th, 32nd CELL from the source". */
    private static void airEats() {
        for (int pitch = 1; pitch <= 3; pitch++) {
            NightSounds right = Check.with("cells 40;source 0 120 " + pitch + " 1;", "");
            NightSounds left = Check.with("cells 40;source 39 120 " + pitch + " 1;", "");
            int rest = 120;
            for (int i = 1; i <= 39; i++) {
                boolean isDoubled = i == 1 || i == 2 || i == 4 || i == 8 || i == 16 || i == 32;
                rest -= pitch + (isDoubled ? 6 : 0);
                due("pitch " + pitch + " at " + i, right.left(0, 0, RIGHT, 0, i), Math.max(0, rest));
                due("to the left", left.left(0, 0, LEFT, 0, i), Math.max(0, rest));
                due("loud", right.loud(i, 0, 0), Math.max(0, rest));
                due("loud to the left", left.loud(39 - i, 0, 0), Math.max(0, rest));
                due("place", right.ray(0, 0, RIGHT, 0, i), rest > 0 ? 1 : -1);
            }
        }
    }

    /** "if nothing is left (0 or less), it ends". */
    private static void nothingLeft() {
        int[] levels = {1, 6, 7, 8, 14, 15, 16};
        int[] firsts = {0, 0, 0, 1, 7, 8, 9};
        int[] seconds = {0, 0, 0, 0, 0, 1, 2};
        for (int i = 0; i < levels.length; i++) {
            NightSounds x = Check.with("source 0 " + levels[i] + " 1 1;", "");
            due("of " + levels[i] + " at 1", x.left(0, 0, RIGHT, 0, 1), firsts[i]);
            due("place", x.ray(0, 0, RIGHT, 0, 1), firsts[i] > 0 ? 1 : -1);
            due("of " + levels[i] + " at 2", x.left(0, 0, RIGHT, 0, 2), seconds[i]);
            due("place 2", x.ray(0, 0, RIGHT, 0, 2), seconds[i] > 0 ? 1 : -1);
            due("loud at 2", x.loud(2, 0, 0), seconds[i]);
        }
    }

    /** What the ground and the air eat is looked at together, once. */
    private static void nothingLeftOnSnow() {
        int[] levels = {9, 15, 16, 17};
        int[] rests = {0, 0, 0, 1};
        for (int i = 0; i < levels.length; i++) {
            NightSounds x = Check.with("ground 1 1 3 1;source 0 " + levels[i] + " 1 1;", "");
            due("of " + levels[i] + " on snow", x.left(0, 0, RIGHT, 0, 1), rests[i]);
            due("its place", x.ray(0, 0, RIGHT, 0, 1), rests[i] > 0 ? 1 : -1);
        }
    }

    /** "There it is LOUD by what is left, if it is 2 or less above the ground." */
    private static void twoAboveTheGround() {
        // From 6 (on HEIGHT 5) the steepest RAY is at 3 one CELL away: 3 above ground of 0, 2 above ground of 1.
        for (int height = 0; height <= 6; height++) {
            NightSounds x = Check.with("ground 0 0 0 5;ground 1 1 0 " + height + ";source 0 99 1 1;", "");
            due("3 and more over " + height, x.loud(1, 0, 0), height == 0 ? 0 : 92);
        }
        NightSounds x = Check.with("wall 1 2;source 0 99 1 1;", "");
        due("2 above the ground is loud", x.loud(1, 0, 0), 92);
        x = Check.with("wall 1 3;source 0 99 1 1;", "");
        due("3 above the ground is not", x.loud(1, 0, 0), 0);
        x = Check.with("ground 0 19 0 9;wall 1 2;source 0 99 1 1;", "");
        due("2 above a high ground", x.loud(1, 0, 0), 92);
    }

    /** "and by the wind (to the right; to the left less)". */
    private static void windByDirection() {
        NightSounds x = Check.with("source 9 99 1 1;", "wind 4;");
        along(x, RIGHT, 0, new int[] {1, 1, 3, 7, 13}, new int[] {99, 92, 85, 84, 77});
        along(x, LEFT, 3, new int[] {1, 4, 5, 4, 1}, new int[] {99, 92, 85, 84, 77});
        x = Check.with("source 9 99 1 1;", "wind 0;");
        along(x, LEFT, 0, new int[] {1, 1, 3, 7, 13}, new int[] {99, 92, 85, 84, 77});
        along(x, RIGHT, 3, new int[] {1, 4, 5, 4, 1}, new int[] {99, 92, 85, 84, 77});
    }

    /** "held to .. 6". */
    private static void heldTo6() {
        NightSounds x = Check.with("source 0 99 1 1;", "layer 2 4;layer 3 4;wind 4;");
        due("2 and 4 are 6", x.ray(0, 0, RIGHT, 3, 1), 4);
        due("3 and 4 are held", x.ray(0, 0, RIGHT, 3, 2), 10);
        due("6 and 4 are held", x.ray(0, 0, RIGHT, 6, 2), 13);
        x = Check.with("source 0 99 1 1;", "layer 1 4;wind 4;");
        due("2 and 4 are just 6", x.ray(0, 0, RIGHT, 2, 2), 9);
        due("1 and 4 are 5", x.ray(0, 0, RIGHT, 1, 2), 7);
    }

    /** "held to -6 ..": from 7 down to 1, not to 0; it comes up again by 6, not by 7. */
    private static void heldToMinus6() {
        NightSounds x = Check.with("ground 0 0 0 9;source 0 99 1 1;", "layer 3 0;layer 4 0;wind 0;");
        due("-3 less 4 is held", x.ray(0, 0, RIGHT, -3, 2), 1);
        due("it came not down", x.left(0, 0, RIGHT, -3, 2), 85);
        due("-2 less 4 is just -6", x.ray(0, 0, RIGHT, -2, 2), 2);
        x = Check.with("ground 0 0 0 9;source 0 99 1 1;", "layer 3 0;wind 1;");
        due("-3 less 3 is just -6", x.ray(0, 0, RIGHT, -3, 2), 1);
        due("down", x.ray(0, 0, RIGHT, -3, 3), 0);
        due("up by 6, less 1 by the wind", x.ray(0, 0, RIGHT, -3, 4), 5);
    }

    /** Bend and wind come first, then it is held. */
    private static void heldBehindBoth() {
        NightSounds x = Check.with("source 9 99 1 1;", "layer 3 4;wind 0;");
        due("6, 2 more, 2 less", x.ray(0, 0, RIGHT, 6, 2), 13);
        x = Check.with("source 9 99 1 1;", "layer 3 0;wind 0;");
        due("6, 2 less, 2 more", x.ray(0, 0, LEFT, 6, 2), 13);
    }

    /** "NONE: it has ended, or the LAND"; "i 0 to 39". */
    private static void landEnds() {
        NightSounds x = Check.with("cells 40;source 0 120 1 1;source 39 120 1 1;source 38 120 1 1;", "");
        due("39 away", x.ray(0, 0, RIGHT, 0, 39), 1);
        due("39 away to the left", x.ray(0, 1, LEFT, 0, 39), 1);
        due("off to the left", x.ray(0, 0, LEFT, 0, 1), -1);
        due("nothing is left there", x.left(0, 0, LEFT, 0, 1), 0);
        due("off to the right", x.ray(0, 1, RIGHT, 0, 1), -1);
        due("far off", x.ray(0, 1, RIGHT, 0, 39), -1);
        due("the last cell", x.ray(0, 2, RIGHT, 0, 1), 1);
        due("off behind it", x.ray(0, 2, RIGHT, 0, 2), -1);
        Check.noArgument("i 40", x, () -> x.ray(0, 0, RIGHT, 0, 40));
        Check.noArgument("i -1", x, () -> x.ray(0, 0, RIGHT, 0, -1));
        NightSounds small = Check.with("cells 8;source 7 99 1 1;", "");
        due("7 away", small.ray(0, 0, LEFT, 0, 7), 1);
        due("8 away", small.ray(0, 0, LEFT, 0, 8), -1);
        due("right of 8 cells", small.left(0, 0, RIGHT, 0, 1), 0);
    }

    /** "(a SOURCE of LEVEL 0 has no RAYS)". */
    private static void levelNought() {
        NightSounds x = Check.with("cells 8;house 3 0;source 3 2 1 1;hush 0 1 1;hush 0 1 1;", "");
        x.does(0);
        due("of 1 it starts", x.ray(0, 0, RIGHT, 0, 0), 1);
        due("of 1 it has 1", x.left(0, 0, RIGHT, 0, 0), 1);
        due("of 1 it is heard", x.hears(0, 0), 1);
        x.does(1);
        for (int i = 0; i < 40; i++) {
            due("no ray", x.ray(0, 0, RIGHT, 0, i), -1);
            due("nothing left", x.left(0, 0, LEFT, 0, i), 0);
        }
        loud(x, 0, 0, 0, 0, 0, 0, 0, 0);
        due("nor heard", x.hears(0, 0), 0);
    }

    /** "LOUD of a source at a CELL: the most of its RAYS, 0 without". */
    private static void mostOfItsRays() {
        NightSounds x = Check.with("cells 8;ground 1 1 3 1;source 0 99 1 1;", "");
        due("two rays come there, one from the snow", x.loud(1, 0, 0), 92);
        x = Check.with("cells 8;wall 1 9;source 0 99 1 1;", "");
        loud(x, 99, 0, 0, 0, 0, 0, 0, 0);
    }

    /** "where it stands: its LEVEL". */
    private static void whereItStands() {
        for (int level : new int[] {1, 2, 119, 120}) {
            NightSounds x = Check.with("cells 8;ground 0 0 3 9;wall 0 9;source 0 " + level + " 3 1;source 7 " + level
                    + " 1 2;", "");
            due("at the first", x.loud(0, 0, 0), level);
            due("at the last", x.loud(7, 0, 1), level);
        }
    }

    /** "LOUD at a CELL in an hour by an AIR: the most of all SOURCES of that hour." */
    private static void mostOfAllSources() {
        NightSounds x = Check.with("source 4 7 1 1;source 4 9 1 3;source 4 8 1 6;source 4 1 1 6;source 4 3 1 6;"
                + "source 4 120 1 32;", "");
        int[] due = {9, 9, 8, 0, 0, 120, 0};
        for (int hour = 0; hour < due.length; hour++) {
            due("in hour " + hour, x.at(4, 0, hour), due[hour]);
        }
        due("without sources", Check.with("", "").at(19, 0, 23), 0);
    }

    /** "A HOUSE HEARS, if it is LOUD by 1 or more there". */
    private static void hearsByOne() {
        NightSounds x = Check.with("house 2 0;house 3 0;source 0 15 1 1;", "");
        due("by 1", x.at(2, 0, 0), 1);
        due("by 0", x.at(3, 0, 0), 0);
        due("the first alone", x.hears(0, 0), 1);
        due("in no other hour", x.hears(0, 1), 0);
    }

    /** "and by as much as its EAR and the HUM together". */
    private static void hearsByEarAndHum() {
        NightSounds x = Check.with("house 5 59;house 5 60;hum 0 40;source 5 98 1 1;source 5 99 1 2;source 5 100 1 4;", "");
        due("98", x.hears(0, 0), 0);
        due("99", x.hears(0, 1), 1);
        due("100", x.hears(0, 2), 3);
        x = Check.with("house 5 7;hum 3 4;hum 4 3;hum 5 5;source 5 11 1 16777215;", "");
        due("11 of 11", x.hears(0, 3), 1);
        due("11 of 10", x.hears(0, 4), 1);
        due("11 of 12", x.hears(0, 5), 0);
        due("11 of 12 in the morning", x.hears(0, 2), 0);
        x = Check.with("house 5 60;hum 0 40;source 5 120 1 1;foam 0 20 1;foam 0 1 1;", "");
        x.does(0);
        due("120 of 120", x.hears(0, 0), 1);
        x.does(1);
        due("120 of 121", x.hears(0, 0), 0);
    }

    /** "HOUSES that HEAR in an hour, as bits": none, and all eight. */
    private static void hearsAll() {
        NightSounds x = Check.with("house 5 9;".repeat(8) + "source 5 9 1 1;", "");
        due("all", x.hears(0, 0), 255);
        due("none", x.hears(0, 1), 0);
        due("without houses", Check.with("source 5 9 1 1;", "").hears(0, 0), 0);
        x = Check.with("house 5 10;".repeat(7) + "house 5 9;source 5 9 1 1;", "");
        due("the last alone", x.hears(0, 0), 128);
        due("without sources", Check.with("house 5 0;", "").hears(0, 0), 0);
    }

    private static void zones(String what, NightSounds x, int many, int first) {
        due(what + ", cells", x.zones(0, 0, 0), many);
        due(what + ", the first", x.zones(0, 0, 1), first);
    }

    private static final String OVER = "layer 2 0;layer 3 0;layer 4 0;layer 5 0;";

    /** "CELLS where it is not LOUD at all, farther out in that direction it is again": one CELL beyond is enough. */
    private static void zonesBetween() {
        NightSounds x = Check.with("cells 8;source 0 100 1 1;wall 1 5;wall 6 9;wall 7 9;", OVER);
        loud(x, 100, 0, 0, 0, 0, 77, 0, 0);
        zones("up to 5", x, 4, 1);
        x = Check.with("cells 8;source 0 24 1 1;wall 1 5;", OVER);
        loud(x, 24, 0, 0, 0, 0, 1, 0, 0);
        zones("loud by 1 beyond", x, 4, 1);
        x = Check.with("cells 8;source 7 24 1 1;wall 6 5;", OVER);
        loud(x, 0, 0, 1, 0, 0, 0, 0, 24);
        zones("loud by 1 beyond, to the left", x, 4, 3);
        x = Check.with("cells 8;source 0 23 1 1;wall 1 5;", OVER);
        loud(x, 23, 0, 0, 0, 0, 0, 0, 0);
        zones("loud by 0 beyond", x, 0, -1);
    }

    private static void zonesInThatDirection() {
        NightSounds x = Check.with("cells 12;source 3 100 1 1;wall 4 5;wall 2 9;", OVER);
        loud(x, 0, 0, 0, 100, 0, 0, 0, 0, 77, 76, 72, 0);
        zones("to the right alone", x, 4, 4);
        x = Check.with("cells 12;source 8 100 1 1;wall 7 5;wall 9 9;", OVER);
        loud(x, 0, 72, 76, 77, 0, 0, 0, 0, 100, 0, 0, 0);
        zones("to the left alone", x, 4, 4);
        x = Check.with("cells 15;source 7 100 1 1;wall 6 5;wall 8 5;", OVER);
        zones("both ways", x, 8, 3);
    }

    /** A ZONE may be next to the SOURCE, the CELL beyond the last of the LAND. */
    private static void zonesToTheEnds() {
        NightSounds x = Check.with("cells 40;source 34 100 1 1;wall 35 5;wall 33 9;", OVER);
        due("loud at the last", x.loud(39, 0, 0), 77);
        zones("up to the last", x, 4, 35);
        x = Check.with("cells 40;source 5 100 1 1;wall 4 5;wall 6 9;", OVER);
        due("loud at the first", x.loud(0, 0, 0), 77);
        zones("down to the first", x, 4, 1);
        x = Check.with("cells 8;source 0 100 1 1;wall 2 9;", "");
        zones("nothing beyond", x, 0, -1);
    }

    /** "the first one (1; NONE)". */
    private static void noZones() {
        zones("all is loud", Check.with("cells 8;source 3 100 1 1;", ""), 0, -1);
        NightSounds x = Check.with("cells 40;source 3 1 1 1;hush 0 1 1;", "");
        zones("all but where it stands is silent", x, 0, -1);
        x.does(0);
        zones("all is silent", x, 0, -1);
    }

    /** "how many CELLS have a SOURCE LOUD by one AIR, and not at all by another one". */
    private static void whyNotAtAll() {
        NightSounds x = Check.with("cells 8;source 0 24 1 1;wall 1 5;source 0 25 1 1;", OVER, "");
        due("loud by 1", x.why(0, 1, 0), 1);
        due("by 2 and by 1", x.why(0, 1, 1), 2);
        due("the other way", x.why(1, 0, 0), 0);
        due("by itself", x.why(0, 0, 0), 0);
        x = Check.with("cells 8;source 0 100 1 1;ground 1 1 3 1;", "", "wind 1;");
        due("louder does not count", x.why(0, 1, 0), 0);
        x = Check.with("cells 8;source 0 1 1 1;hush 0 1 1;", OVER, "");
        x.does(0);
        due("of level 0", x.why(0, 1, 0), 0);
    }

    /** The first and the last CELL count. */
    private static void whyOfAllCells() {
        NightSounds x = Check.with("cells 11;source 5 100 1 1;wall 4 5;wall 6 5;", OVER, "");
        due("loud at the first", x.loud(0, 0, 0), 77);
        due("loud at the last", x.loud(10, 0, 0), 77);
        due("these two", x.why(0, 1, 0), 2);
    }
}
