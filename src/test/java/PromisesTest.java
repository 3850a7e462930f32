/** Each promise of the document by itself: what is ordinary, the edges it names, and what it refuses. */
public final class PromisesTest {
    private static final int ALL_HOURS = 16777215;

    /** Over the wall, and down again behind it: with a SOURCE at 0, a wall 5 high at 1, LOUD at 0, 5, 6, 7. */
    private static final String OVER = "layer 2 0;layer 3 0;layer 4 0;layer 5 0;";

    public static void main(String[] args) {
        newObject();
        feed();
        land();
        landFaults();
        landLimits();
        air();
        seventhAir();
        airFaults();
        fault();
        told();
        cell();
        hum();
        ear();
        does();
        rays();
        raysEnd();
        raysBend();
        raysAtTheTop();
        airsBehindFaults();
        rayRefusals();
        loud();
        at();
        hears();
        zones();
        why();
        nights();
        wakesAndBadly();
        meanAndHides();
        least();
        leastNone();
        bound();
        helps();
        bell();
        which();
        saying();
        tell();
        bang();
        bangTimes();
        click();
        wagons();
        forget();
        images();
        imagesOfClicksAndFoam();
        status();
        count();
        Check.end();
    }

    private static void due(String what, long got, long want) {
        Check.due(what, got, want);
    }

    // Promise 1

    private static void newObject() {
        NightSounds x = new NightSounds();
        due("NONE", NightSounds.NONE, -1);
        for (int what = 0; what < 5; what++) {
            due("1: told " + what, x.told(what), what == 0 ? 20 : 0);
        }
        for (int i = 0; i < 20; i++) {
            due("1: ground of " + i, x.cell(i, 0) + x.cell(i, 1) + x.cell(i, 2), 0);
        }
        due("1: fault", x.fault(), -1);
        due("1: hum", x.hum(0), 0);
        for (int what = 0; what < 4; what++) {
            due("1: count " + what, x.count(what), 0);
        }
        for (int what = 0; what < 3; what++) {
            due("1: status " + what, x.status(what), 0);
        }
    }

    // Promise 2

    private static void feed() {
        NightSounds x = new NightSounds();
        for (int i = 1; i <= 30; i++) {
            due("2: feed " + i, x.feed(0x20202020, 0x20202020, 0x20202020, 0x20202020, 0x20202020), 20 * i);
        }
        due("2: feed 31", x.feed(0, 0, 0, 0, 0), -1);
        due("2: it did nothing", x.count(3), 600);
        due("2: all are blanks", x.land(600), 0);
        due("2: fed again", x.feed(0x63656c6c, 0x73203131, 0x3b77616c, 0x6c203130, 0x2037203b), 20);
        due("2: cells 11;wall 10 7 ;", x.land(20), 0);
        due("2: its cells", x.told(0), 11);
        due("2: its wall", x.cell(10, 2), 7);
        x.feed(0xE9FFFFFF, -1, -1, -1, Integer.MIN_VALUE);
        due("2: bytes above 127", x.land(20), -9);
        due("2: at the first", x.fault(), 0);
    }

    // Promise 3

    private static void land() {
        NightSounds x = new NightSounds();
        due("3: houses", Check.land(x, "house 0 1;house 0 2;source 3 9 1 1;foam 1 2 3;"), 2);
        due("3: tape is empty", x.count(3), 0);
        Check.air(x, "");
        x.tell(0, 7);
        x.click(8);
        x.does(0);
        x.image();
        Check.feed(x, "house 5 5;");
        Check.noArgument("3: land(-1)", x, () -> x.land(-1));
        Check.noArgument("3: land(21)", x, () -> x.land(21));
        Check.noArgument("3: land(max)", x, () -> x.land(Integer.MAX_VALUE));
        due("3: tape stays", x.count(3), 20);
        due("3: a fault", x.land(9), -9);
        due("3: tape is empty by a fault too", x.count(3), 0);
        due("3: all stays: houses", x.told(1), 2);
        due("3: all stays: works", x.count(0), 1);
        due("3: all stays: clicks", x.count(1), 1);
        due("3: all stays: images", x.count(2), 1);
        due("3: all stays: times", x.tell(0, 7), 7);
        due("3: another land", Check.land(x, "house 5 5;"), 1);
        due("3: works gone", x.count(0), 0);
        due("3: clicks gone", x.count(1), 0);
        due("3: images gone", x.count(2), 0);
        due("3: times gone", x.tell(0, 7), -2);
        due("3: airs stay", x.told(4), 1);
        due("3: sources gone", x.told(2), 0);
        due("3: no text", x.land(0), 0);
        due("3: no text: no houses", x.told(1), 0);
        due("3: only the first bytes", x.land(Check.feed(x, "cells 8;house 0 0;") - 10), 0);
        due("3: cells of these", x.told(0), 8);
    }

    private static void landFaults() {
        Check.landText("cells 7;", 2, 6);
        Check.landText("cells 8;", 0, 0);
        Check.landText("cells 40;", 0, 0);
        Check.landText("cells 41;", 2, 6);
        Check.landText("cells 99999999999999999999999;", 2, 6);
        Check.landText("cells 4294967304;", 2, 6);
        Check.landText("cells 00000000000000000000000000008;", 0, 0);
        Check.landText("cells9;", 0, 0);
        Check.landText("  cells  9  ;  ", 0, 0);
        Check.landText("cells", 1, 5);
        Check.landText("cells ", 1, 6);
        Check.landText("cells 9", 1, 7);
        Check.landText("cells 9 ", 1, 8);
        Check.landText("cells ;", 1, 6);
        Check.landText("cells 9x;", 1, 7);
        Check.landText("cells 9 9;", 1, 8);
        Check.landText("cells -9;", 1, 6);
        Check.landText("Cells 9;", 1, 0);
        Check.landText(" cell 9;", 1, 1);
        Check.landText("cellsx 9;", 1, 0);
        Check.landText("cel", 1, 0);
        Check.landText(";", 1, 0);
        Check.landText("9;", 1, 0);
        Check.landText("cells 9;;", 1, 8);
        Check.landText("cells\t9;", 1, 5);
        Check.landText("wind 1;", 1, 0);
        Check.landText("cells 9;cells 9;", 4, 8);
        Check.landText("hum 0 0; cells 9;", 4, 9);
        Check.landText("cells 7 x", 2, 6);
        Check.landText("wall 0 1;wall 99 1;x", 2, 14);
        Check.landText("ground 20 20 0 0;", 2, 7);
        Check.landText("ground 19 19 3 9;", 0, 0);
        Check.landText("ground 5 4 0 0;", 2, 9);
        Check.landText("ground 0 20 0 0;", 2, 9);
        Check.landText("ground 0 0 4 0;", 2, 11);
        Check.landText("ground 0 0 0 10;", 2, 13);
        Check.landText("ground 0 0 0;", 1, 12);
        Check.landText("wall 20 1;", 2, 5);
        Check.landText("wall 0 0;", 2, 7);
        Check.landText("wall 0 10;", 2, 7);
        Check.landText("cells 30;wall 29 9;", 0, 0);
        Check.landText("house 20 0;", 2, 6);
        Check.landText("house 19 60;", 0, 0);
        Check.landText("house 0 61;", 2, 8);
        Check.landText("hum 24 0;", 2, 4);
        Check.landText("hum 23 40;", 0, 0);
        Check.landText("hum 0 41;", 2, 6);
        Check.landText("source 20 1 1 1;", 2, 7);
        Check.landText("source 0 0 1 1;", 2, 9);
        Check.landText("source 0 121 1 1;", 2, 9);
        Check.landText("source 0 120 3 16777215;", 0, 0);
        Check.landText("source 0 1 0 1;", 2, 11);
        Check.landText("source 0 1 4 1;", 2, 11);
        Check.landText("source 0 1 1 0;", 2, 13);
        Check.landText("source 0 1 1 16777216;", 2, 13);
        workFaults();
    }

    private static void workFaults() {
        Check.landText("screen 20 1 1;", 2, 7);
        Check.landText("screen 0 0 1;", 2, 9);
        Check.landText("screen 0 10 1;", 2, 9);
        Check.landText("screen 0 1 0;", 2, 11);
        Check.landText("screen 0 1 100;", 2, 11);
        Check.landText("screen 19 9 99;", 0, 0);
        Check.landText("tar 20 20 1;", 2, 4);
        Check.landText("tar 5 4 1;", 2, 6);
        Check.landText("tar 0 20 1;", 2, 6);
        Check.landText("tar 0 0 0;", 2, 8);
        Check.landText("tar 0 19 99;", 0, 0);
        Check.landText("hush 0 1 1;source 0 1 1 1;", 2, 5);
        Check.landText("source 0 1 1 1;hush 1 1 1;", 2, 20);
        Check.landText("source 0 1 1 1;hush 0 0 1;", 2, 22);
        Check.landText("source 0 1 1 1;hush 0 100 1;", 2, 22);
        Check.landText("source 0 1 1 1;hush 0 99 0;", 2, 25);
        Check.landText("source 0 1 1 1;hush 0 99 99;", 0, 0);
        Check.landText("foam 0 1 1;house 0 0;", 2, 5);
        Check.landText("house 0 0;foam 1 1 1;", 2, 15);
        Check.landText("house 0 0;foam 0 0 1;", 2, 17);
        Check.landText("house 0 0;foam 0 31 1;", 2, 17);
        Check.landText("house 0 0;foam 0 30 100;", 2, 20);
        Check.landText("house 0 0;foam 0 30 99;", 0, 0);
    }

    private static void landLimits() {
        Check.landText("wall 0 1;".repeat(60), 0, 0);
        Check.landText("wall 0 1;".repeat(60) + "  ", 0, 0);
        Check.landText("wall 0 1;".repeat(60) + " wall 0 1;", 3, 541);
        Check.landText("wall 0 1;".repeat(60) + "cells 9;", 3, 540);
        Check.landText("wall 0 1;".repeat(60) + "cell 9;", 1, 540);
        Check.landText("wall 0 1;".repeat(60) + ";", 1, 540);
        Check.landText("house 0 0;".repeat(8), 0, 0);
        Check.landText("house 0 0;".repeat(9), 3, 80);
        Check.landText("house 0 0;".repeat(8) + "house", 3, 80);
        Check.landText("source 0 1 1 1;".repeat(6), 0, 0);
        Check.landText("source 0 1 1 1;".repeat(7), 3, 90);
        Check.landText("tar 0 1 1;".repeat(8), 0, 0);
        Check.landText("tar 0 1 1;".repeat(8) + "screen 0 1 1;", 3, 80);
        Check.landText("tar 0 1 1;".repeat(8) + "hush 0 1 1;", 3, 80);
        Check.landText("tar 0 1 1;".repeat(8) + "foam 0 1 1;", 3, 80);
        Check.landText("tar 0 1 1;".repeat(8) + "tar 0 1 1;", 3, 80);
        Check.landText("tar 0 1 1;".repeat(8) + "wall 0 1;", 0, 0);
    }

    // Promise 4

    private static void air() {
        NightSounds x = Check.with("house 0 0;");
        due("4: the first", Check.air(x, "weight 3;"), 0);
        due("4: tape is empty", x.count(3), 0);
        Check.feed(x, " ".repeat(220));
        Check.noArgument("4: air(-1)", x, () -> x.air(-1));
        Check.noArgument("4: air(201)", x, () -> x.air(201));
        due("4: tape stays", x.count(3), 220);
        due("4: 200 bytes", x.air(200), 1);
        Check.feed(x, " ");
        Check.noArgument("4: air(21)", x, () -> x.air(21));
        due("4: a blank", x.air(1), 2);
        due("4: of one the last counts", Check.air(x, "weight 9;weight 10;weight 11;"), 3);
        due("4: weights", x.nights(0, 0, 1), 3 + 1 + 1 + 11);
        due("4: a fault", Check.air(x, "weight 9"), -9);
        due("4: a fault adds none", x.told(4), 4);
        due("4: the land stays", x.told(1), 1);
        for (int i = 4; i < 6; i++) {
            due("4: air " + i, Check.air(x, ""), i);
        }
        due("4: there are 6", Check.air(x, "weight 50;"), -1);
        due("4: still 6", x.told(4), 6);
        due("4: the weights stay", x.nights(0, 0, 1), 3 + 1 + 1 + 11 + 1 + 1);
        due("4: the tape went", x.count(3), 0);
    }

    private static void seventhAir() {
        NightSounds x = Check.with("house 0 0;", "", "", "", "", "", "");
        for (String text : new String[] {"weight 500;", "x", "weight 9", "fine 1;".repeat(21), "wind 4;", ""}) {
            due("4: with 6 " + text, Check.air(x, text), -1);
            due("5: with 6 " + text, x.fault(), -1);
            due("4: tape with 6 " + text, x.count(3), 0);
        }
        due("4: bytes behind n go too", x.feed(0, 0, 0, 0, 0), 20);
        due("4: none of them", x.air(0), -1);
        due("4: they went", x.count(3), 0);
        Check.feed(x, "?".repeat(220));
        Check.noArgument("4: with 6, air(-1)", x, () -> x.air(-1));
        Check.noArgument("4: with 6, air(201)", x, () -> x.air(201));
        due("4: with 6, the tape stays", x.count(3), 220);
        due("4: with 6, 200 bytes", x.air(200), -1);
        Check.noArgument("4: with 6, air(1)", x, () -> x.air(1));
        due("4: six", x.told(4), 6);
        due("4: their weights", x.nights(0, 0, 1), 6);
        seventhAirBehindFault("x");
        seventhAirBehindFault("weight 500;");
        seventhAirBehindFault("wind 1;");
        seventhAirBehindFault("");
    }

    private static void seventhAirBehindFault(String text) {
        NightSounds x = Check.with("house 0 0;", "", "", "", "", "", "");
        Check.land(x, "cells 7;");
        due("5: a land's fault, with 6 airs", x.fault(), 6);
        Check.noArgument("4: with 6, behind a fault, air(1)", x, () -> x.air(1));
        due("5: a refused air told no text", x.fault(), 6);
        due("4: with 6, behind a fault, " + text, Check.air(x, text), -1);
        due("5: no fault is told of " + text, x.fault(), -1);
        Check.land(x, "cells 7;");
        due("5: a land's fault behind " + text, x.fault(), 6);
    }

    private static void airFaults() {
        Check.airText("", 0, 0);
        Check.airText("   ", 0, 0);
        Check.airText("layer 11 4;", 0, 0);
        Check.airText("layer 12 0;", 2, 6);
        Check.airText("layer 0 5;", 2, 8);
        Check.airText("layer 0;", 1, 7);
        Check.airText("wind 4;", 0, 0);
        Check.airText("wind 5;", 2, 5);
        Check.airText("weight 99;", 0, 0);
        Check.airText("weight 0;", 2, 7);
        Check.airText("weight 100;", 2, 7);
        Check.airText("fine 8;fine 0;", 0, 0);
        Check.airText("fine 9;", 2, 5);
        Check.airText("fine", 1, 4);
        Check.airText("fines 1;", 1, 0);
        Check.airText("cells 9;", 1, 0);
        Check.airText("fine 1;".repeat(20), 0, 0);
        Check.airText("fine 1;".repeat(21), 3, 140);
        Check.airText("fine 1;".repeat(20) + " fin", 1, 141);
    }

    // Promise 5

    private static void fault() {
        NightSounds x = new NightSounds();
        due("5: without", x.fault(), -1);
        Check.land(x, "cells 7;");
        due("5: of a land", x.fault(), 6);
        Check.noArgument("5: land(-1)", x, () -> x.land(-1));
        due("5: that was no text", x.fault(), 6);
        Check.air(x, "wind 1");
        due("5: of an air", x.fault(), 6);
        Check.air(x, " win");
        due("5: of the latest", x.fault(), 1);
        Check.air(x, "");
        due("5: none now", x.fault(), -1);
    }

    // Promises 6 to 10

    private static void told() {
        NightSounds x = Check.with("cells 33;house 0 0;house 1 1;house 2 2;source 0 1 1 1;source 0 1 1 1;tar 0 1 1;",
                "", "", "", "", "");
        due("6: cells", x.told(0), 33);
        due("6: houses", x.told(1), 3);
        due("6: sources", x.told(2), 2);
        due("6: works", x.told(3), 1);
        due("6: airs", x.told(4), 5);
        Check.noArgument("6: told(-1)", x, () -> x.told(-1));
        Check.noArgument("6: told(5)", x, () -> x.told(5));
    }

    private static void cell() {
        NightSounds x = Check.with("cells 9;ground 2 4 1 5;ground 4 8 3 9;wall 3 4;wall 3 2;");
        int[][] due = {{0, 0, 0}, {0, 0, 0}, {1, 5, 0}, {1, 5, 2}, {3, 9, 0}, {3, 9, 0}, {3, 9, 0}, {3, 9, 0}, {3, 9, 0}};
        for (int i = 0; i < 9; i++) {
            for (int what = 0; what < 3; what++) {
                due("7: cell(" + i + ", " + what + ")", x.cell(i, what), due[i][what]);
            }
        }
        Check.noCell("7: cell(-1, 0)", x, () -> x.cell(-1, 0));
        Check.noCell("7: cell(9, 3)", x, () -> x.cell(9, 3));
        Check.noArgument("7: cell(8, 3)", x, () -> x.cell(8, 3));
        Check.noArgument("7: cell(0, -1)", x, () -> x.cell(0, -1));
    }

    private static void hum() {
        NightSounds x = Check.with("hum 5 10;hum 20 30;hum 5 12;");
        due("8: hum 0", x.hum(0), 30);
        due("8: hum 4", x.hum(4), 30);
        due("8: hum 5", x.hum(5), 12);
        due("8: hum 19", x.hum(19), 12);
        due("8: hum 20", x.hum(20), 30);
        due("8: hum 23", x.hum(23), 30);
        Check.noArgument("8: hum(-1)", x, () -> x.hum(-1));
        Check.noArgument("8: hum(24)", x, () -> x.hum(24));
        Check.land(x, "hum 23 7;hum 0 0;");
        due("8: a hum of 0 is told", x.hum(22), 0);
        due("8: hum 23 now", x.hum(23), 7);
    }

    private static void ear() {
        NightSounds x = Check.with("house 3 60;house 3 0;foam 0 30 1;foam 0 5 1;foam 1 7 1;");
        due("9: ear 0", x.ear(0), 60);
        due("9: ear 1", x.ear(1), 0);
        x.does(1);
        x.does(0);
        due("9: ear 0 with both foams", x.ear(0), 95);
        due("9: ear 1 without", x.ear(1), 0);
        Check.noElement("9: ear(-1)", x, () -> x.ear(-1));
        Check.noElement("9: ear(2)", x, () -> x.ear(2));
    }

    private static void does() {
        NightSounds x = Check.with("wall 2 4;ground 1 3 1 6;source 0 50 1 1;screen 2 3 1;screen 2 7 1;tar 2 5 1;"
                + "hush 0 30 1;hush 0 40 1;", "");
        due("10: done", x.does(1), 1);
        due("10: wall", x.cell(2, 2), 7);
        due("10: again", x.does(1), 0);
        due("10: done later", x.does(0), 1);
        due("10: what was done last counts", x.cell(2, 2), 3);
        due("10: tar", x.does(2), 1);
        due("10: water", x.cell(2, 0) * 10 + x.cell(5, 0), 22);
        due("10: heights stay", x.cell(2, 1), 6);
        due("10: not beyond", x.cell(1, 0) * 10 + x.cell(6, 0), 10);
        due("10: level", x.loud(0, 0, 0), 50);
        x.does(3);
        due("10: less level", x.loud(0, 0, 0), 20);
        x.does(4);
        due("10: 0 at least", x.loud(0, 0, 0), 0);
        due("10: works done", x.count(0), 5);
        Check.noElement("10: does(5)", x, () -> x.does(5));
        Check.noElement("10: does(-1)", x, () -> x.does(-1));
    }

    // Promises 11 and 12

    private static void along(String what, NightSounds x, int direction, int slope, int[] places, int[] rests) {
        for (int i = 0; i < places.length; i++) {
            due(what + ": place " + i, x.ray(0, 0, direction, slope, i), places[i]);
            due(what + ": left " + i, x.left(0, 0, direction, slope, i), rests[i]);
        }
    }

    private static void rays() {
        NightSounds x = Check.with("source 0 60 1 1;", "");
        along("11: level", x, 0, 0, new int[] {1, 1, 1, 1, 1, 1}, new int[] {60, 53, 46, 45, 38, 37});
        along("11: down on grass", x, 0, -1, new int[] {1, 0, 1, 2, 3}, new int[] {60, 50, 43, 42, 35});
        along("11: steeply", x, 0, -3, new int[] {1, 0, 3, 6}, new int[] {60, 50, 43, 42});
        Check.land(x, "ground 1 1 1 0;source 0 60 1 1;");
        along("11: wood", x, 0, -1, new int[] {1, 0, 1}, new int[] {60, 47, 40});
        Check.land(x, "ground 1 1 2 0;source 0 60 1 1;");
        along("11: water", x, 0, -1, new int[] {1, 0, 1}, new int[] {60, 53, 46});
        Check.land(x, "ground 1 1 3 0;source 0 60 3 1;");
        along("11: snow", x, 0, -1, new int[] {1, 0, 1}, new int[] {60, 42, 33});
        Check.land(x, "ground 3 3 0 5;source 0 60 1 1;");
        along("11: a hill", x, 0, 0, new int[] {1, 1, 1, 5, 5, 5}, new int[] {60, 53, 46, 42, 35, 34});
        along("11: just the hill's", x, 0, -2, new int[] {1, 0, 2, 5, 7}, new int[] {60, 50, 43, 39, 32});
        Check.land(x, "cells 40;source 39 120 1 1;");
        int[] rests = {120, 113, 106, 105, 98, 97, 96, 95, 88, 87, 86, 85, 84, 83, 82, 81, 74, 73};
        for (int i = 0; i < rests.length; i++) {
            due("12: to the left " + i, x.left(0, 0, 1, 0, i), rests[i]);
        }
        due("12: at the 31st", x.left(0, 0, 1, 0, 31), 59);
        due("12: at the 32nd", x.left(0, 0, 1, 0, 32), 52);
        due("12: at the 39th", x.left(0, 0, 1, 0, 39), 45);
        due("11: to the right it ends", x.ray(0, 0, 0, 0, 1), -1);
        due("12: to the right it ends", x.left(0, 0, 0, 0, 1), 0);
        due("11: but starts", x.ray(0, 0, 0, 0, 0), 1);
    }

    private static void raysEnd() {
        NightSounds x = Check.with("source 0 99 1 1;", "");
        along("11: too high", x, 0, 6, new int[] {1, 7, 13, 19, -1, -1}, new int[] {99, 92, 85, 84, 0, 0});
        Check.land(x, "ground 0 0 0 5;source 0 99 1 1;");
        along("11: 24 is not too high", x, 0, 6, new int[] {6, 12, 18, 24, -1}, new int[] {99, 92, 85, 84, 0});
        Check.land(x, "wall 2 3;source 0 99 1 1;");
        along("11: below the wall", x, 0, 0, new int[] {1, 1, -1, -1}, new int[] {99, 92, 0, 0});
        Check.land(x, "wall 2 1;source 0 99 1 1;ground 1 2 2 0;");
        along("11: below a low wall", x, 0, -1, new int[] {1, 0, 1}, new int[] {99, 92, 85});
        Check.land(x, "wall 1 1;source 0 99 1 1;");
        along("11: on the ground before a low wall", x, 0, -1, new int[] {1, -1}, new int[] {99, 0});
        Check.land(x, "wall 2 3;source 0 99 1 1;");
        along("11: on the wall", x, 0, 1, new int[] {1, 2, 3, 4}, new int[] {99, 92, 85, 84});
        Check.land(x, "ground 2 2 0 4;wall 2 3;source 0 99 1 1;");
        along("11: a wall on a hill", x, 0, 2, new int[] {1, 3, -1}, new int[] {99, 92, 0});
        along("11: over both", x, 0, 3, new int[] {1, 4, 7}, new int[] {99, 92, 85});
        Check.land(x, "source 3 15 1 1;wall 3 9;");
        along("11: little left", x, 1, 0, new int[] {1, 1, 1, -1}, new int[] {15, 8, 1, 0});
        due("11: the land ends", x.ray(0, 0, 1, 0, 4), -1);
        Check.land(x, "source 3 14 1 1;");
        along("12: nothing left", x, 0, 0, new int[] {1, 1, -1}, new int[] {14, 7, 0});
        Check.land(x, "source 3 14 1 1;hush 0 14 1;");
        x.does(0);
        along("11: of level 0", x, 0, 0, new int[] {-1, -1}, new int[] {0, 0});
    }

    private static void raysBend() {
        NightSounds x = Check.with("source 0 99 1 1;", "layer 0 4;");
        along("11: up", x, 0, 0, new int[] {1, 1, 3, 5}, new int[] {99, 92, 85, 84});
        x = Check.with("source 0 99 1 1;", "layer 0 1;layer 1 3;layer 2 0;");
        along("11: layers", x, 0, 2, new int[] {1, 3, 6, 9}, new int[] {99, 92, 85, 84});
        along("11: layers again", x, 0, 3, new int[] {1, 4, 5, 4, 1}, new int[] {99, 92, 85, 84, 77});
        x = Check.with("source 5 99 1 1;", "wind 3;");
        along("11: wind to the right", x, 0, 0, new int[] {1, 1, 2, 4, 7}, new int[] {99, 92, 85, 84, 77});
        along("11: to the left less", x, 1, 0, new int[] {1, 1, 0, 0, 0, 0}, new int[] {99, 92, 82, 78, 68, 64});
        x = Check.with("source 0 99 1 1;", "layer 3 4;layer 6 0;wind 0;");
        along("11: held once, behind both", x, 0, 6, new int[] {1, 7, 13, 15, 15}, new int[] {99, 92, 85, 84, 77});
        x = Check.with("source 0 99 1 1;", "layer 3 4;layer 6 0;wind 4;");
        along("11: not above 6", x, 0, 6, new int[] {1, 7, 13, 19}, new int[] {99, 92, 85, 84});
        x = Check.with("ground 0 3 0 9;source 0 99 1 1;", "layer 6 0;layer 5 0;layer 4 0;layer 3 0;wind 0;");
        along("11: not below -6", x, 0, 3, new int[] {10, 13, 12, 9, 10, 7, 1, 0, 4},
                new int[] {99, 92, 85, 81, 74, 73, 72, 68, 61});
    }

    private static void raysAtTheTop() {
        NightSounds x = Check.with("ground 0 0 0 9;source 0 99 1 1;", "layer 10 0;layer 11 1;wind 1;");
        along("11: layer 11", x, 0, 6, new int[] {10, 16, 21, 23, 23, 21}, new int[] {99, 92, 85, 84, 77, 76});
        x = Check.with("ground 0 0 0 9;source 0 99 1 1;", "layer 7 4;layer 10 0;layer 11 0;wind 1;");
        along("11: 24 is of layer 11", x, 0, 5, new int[] {10, 15, 21, 24, 24, 21}, new int[] {99, 92, 85, 84, 77, 76});
    }

    private static void airsBehindFaults() {
        NightSounds x = Check.with("source 0 99 1 1;house 0 0;");
        Check.air(x, "layer 0 4;wind 4;weight 9;fine 0;x");
        due("4: after a fault", Check.air(x, ""), 0);
        along("4: nothing stays of it", x, 0, 0, new int[] {1, 1, 1, 1}, new int[] {99, 92, 85, 84});
        due("4: nor its weight", x.nights(0, 0, 1), 1);
        due("4: nor how fine", x.saying(0, 0, 0, 1), 2);
        Check.land(x, "source 0 99 1 1;house 0 0;wall 5 5;ground 3 9 2 7;hum 3 3;tar 1 1 1;x");
        due("3: after a fault", Check.land(x, "source 0 99 1 1;"), 0);
        due("3: nothing stays of it", x.cell(5, 0) + x.cell(5, 1) + x.cell(5, 2) + x.hum(3) + x.told(3), 0);
    }

    private static void rayRefusals() {
        NightSounds x = Check.with("source 0 60 1 1;", "");
        Check.noElement("11: air", x, () -> x.ray(1, 0, 0, 0, 0));
        Check.noElement("11: source, ahead of the direction", x, () -> x.ray(0, 1, 2, 0, 0));
        Check.noArgument("11: direction", x, () -> x.ray(0, 0, 2, 0, 0));
        Check.noArgument("11: direction -1", x, () -> x.ray(0, 0, -1, 0, 0));
        Check.noArgument("11: slope -4", x, () -> x.ray(0, 0, 0, -4, 0));
        Check.noArgument("11: slope 7", x, () -> x.ray(0, 0, 0, 7, 0));
        Check.noArgument("11: i -1", x, () -> x.ray(0, 0, 0, 0, -1));
        Check.noArgument("11: i 40", x, () -> x.ray(0, 0, 0, 0, 40));
        due("11: i 39", x.ray(0, 0, 0, 0, 39), -1);
        Check.noElement("12: air", x, () -> x.left(-1, 0, 0, 0, 0));
        Check.noElement("12: source", x, () -> x.left(0, -1, 0, 0, 40));
        Check.noArgument("12: direction", x, () -> x.left(0, 0, 2, 0, 0));
        Check.noArgument("12: slope", x, () -> x.left(0, 0, 0, 7, 0));
        Check.noArgument("12: i", x, () -> x.left(0, 0, 0, 0, 40));
    }

    // Promises 13 to 17

    /** SOURCE 0 sounds in hours 0 and 1, SOURCE 1 in hour 1; HUM is 4. */
    private static NightSounds village() {
        return Check.with("cells 12;source 3 50 1 3;source 9 30 2 2;house 0 5;house 6 31;house 11 15;hum 1 4;", "");
    }

    private static void loud() {
        NightSounds x = village();
        int[] first = {35, 36, 43, 50, 43, 36, 35, 28, 27, 26, 25, 18};
        int[] second = {0, 0, 0, 0, 2, 4, 12, 14, 22, 30, 22, 14};
        for (int i = 0; i < 12; i++) {
            due("13: source 0 at " + i, x.loud(i, 0, 0), first[i]);
            due("13: source 1 at " + i, x.loud(i, 0, 1), second[i]);
        }
        Check.noCell("13: cell, ahead of the air", x, () -> x.loud(12, 1, 0));
        Check.noCell("13: cell -1", x, () -> x.loud(-1, 0, 0));
        Check.noElement("13: air", x, () -> x.loud(0, 1, 0));
        Check.noElement("13: source", x, () -> x.loud(0, 0, 2));
        Check.land(x, "source 0 99 1 1;ground 1 1 0 6;");
        due("13: a cliff's foot is near the ground by a low ray", x.loud(1, 0, 0), 92);
        due("13: 3 above the ground is too high", x.loud(2, 0, 0), 0);
        Check.land(x, "source 0 99 1 1;ground 0 0 0 2;");
        due("13: down to the ground", x.loud(1, 0, 0), 92);
        due("13: 2 above the ground is near", x.loud(2, 0, 0), 85);
    }

    private static void at() {
        NightSounds x = village();
        due("14: hour 0 at 9", x.at(9, 0, 0), 26);
        due("14: hour 1 at 9", x.at(9, 0, 1), 30);
        due("14: hour 1 at 11", x.at(11, 0, 1), 18);
        due("14: hour 2", x.at(9, 0, 2), 0);
        Check.noCell("14: cell", x, () -> x.at(12, 1, 24));
        Check.noElement("14: air", x, () -> x.at(0, 1, 24));
        Check.noArgument("14: hour 24", x, () -> x.at(0, 0, 24));
        Check.noArgument("14: hour -1", x, () -> x.at(0, 0, -1));
    }

    private static void hears() {
        NightSounds x = village();
        due("15: as much is heard, less is not", x.hears(0, 0), 1 + 2);
        due("15: hour 1", x.hears(0, 1), 1 + 2);
        due("15: hour 2", x.hears(0, 2), 0);
        Check.noElement("15: air", x, () -> x.hears(1, 24));
        Check.noArgument("15: hour", x, () -> x.hears(0, 24));
        Check.land(x, "house 0 0;house 5 0;house 6 0;source 0 29 2 8388608;");
        due("15: 1 at least", x.hears(0, 23), 1 + 2);
        due("15: nothing is not heard", x.hears(0, 22), 0);
        due("15: just 1", x.at(5, 0, 23), 1);
    }

    private static void zones() {
        NightSounds x = Check.with("cells 8;source 0 100 1 1;wall 1 5;", OVER, "");
        int[] due = {100, 0, 0, 0, 0, 77, 76, 72};
        for (int i = 0; i < 8; i++) {
            due("16: loud at " + i, x.loud(i, 0, 0), due[i]);
        }
        due("16: cells", x.zones(0, 0, 0), 4);
        due("16: the first", x.zones(0, 0, 1), 1);
        due("16: without coming down", x.zones(1, 0, 0), 0);
        due("16: no first", x.zones(1, 0, 1), -1);
        Check.noElement("16: air", x, () -> x.zones(2, 0, 2));
        Check.noElement("16: source", x, () -> x.zones(0, 1, 2));
        Check.noArgument("16: what", x, () -> x.zones(0, 0, 2));
        Check.noArgument("16: what -1", x, () -> x.zones(0, 0, -1));
        Check.land(x, "cells 15;source 7 100 1 1;wall 6 5;wall 8 5;");
        due("16: both ways", x.zones(0, 0, 0), 8);
        due("16: the first from the left", x.zones(0, 0, 1), 3);
        Check.land(x, "cells 8;source 0 100 1 1;wall 1 5;hush 0 99 1;hush 0 99 1;");
        x.does(0);
        due("16: nothing beyond", x.zones(0, 0, 0), 0);
        x.does(1);
        due("16: of level 0", x.zones(0, 0, 0), 0);
        due("16: of level 0 no first", x.zones(0, 0, 1), -1);
    }

    private static void why() {
        NightSounds x = Check.with("cells 8;source 0 100 1 1;wall 1 5;", OVER, "");
        due("17: by 0 and not by 1", x.why(0, 1, 0), 3);
        due("17: by 1 and not by 0", x.why(1, 0, 0), 0);
        due("17: by the same", x.why(0, 0, 0), 0);
        Check.land(x, "cells 8;source 7 24 1 1;wall 6 5;");
        due("17: loud by 1", x.loud(2, 0, 0), 1);
        due("17: that counts", x.why(0, 1, 0), 1);
        due("16: it counts for zones too", x.zones(0, 0, 0), 4);
        due("16: the first behind it", x.zones(0, 0, 1), 3);
        Check.land(x, "cells 8;source 0 24 1 1;wall 1 5;");
        due("16: on the other side", x.zones(0, 0, 0), 4);
        Check.noElement("17: air", x, () -> x.why(2, 0, 0));
        Check.noElement("17: other", x, () -> x.why(0, 2, 0));
        Check.noElement("17: source", x, () -> x.why(0, 0, 1));
    }

    // Promises 18 to 22

    private static void nights() {
        NightSounds x = Check.with("cells 8;source 0 100 1 2;wall 1 5;house 5 60;hum 0 17;",
                "weight 7;" + OVER, "weight 5;", "weight 30;" + OVER);
        due("18: just heard", x.nights(0, 1, 0), 37);
        due("18: all weights", x.nights(0, 1, 1), 42);
        due("18: another hour", x.nights(0, 2, 0), 0);
        due("18: all weights then", x.nights(0, 2, 1), 42);
        Check.noElement("18: house", x, () -> x.nights(1, 24, 0));
        Check.noArgument("18: hour", x, () -> x.nights(0, 24, 0));
        Check.noArgument("18: what", x, () -> x.nights(0, 0, 2));
        NightSounds none = Check.with("house 0 0;");
        due("18: without airs", none.nights(0, 0, 0), 0);
        due("18: no weights", none.nights(0, 0, 1), 0);
    }

    private static void wakesAndBadly() {
        String land = "cells 8;wall 1 5;house 5 60;hum 0 12;hum 3 13;hum 22 12;";
        NightSounds x = Check.with(land + "source 0 100 1 " + ALL_HOURS + ";", "weight 7;" + OVER, "weight 5;");
        due("19: 22, 23, 0, 1, 2", x.wakes(0, 0), 5);
        due("19: by no other air", x.wakes(0, 1), 0);
        due("20: badly", x.badly(0), 7);
        Check.land(x, land + "source 0 100 1 " + ((1 << 23) + (1 << 21) + (1 << 6) + (1 << 3)) + ";");
        due("19: once", x.wakes(0, 0), 1);
        due("20: once is not badly", x.badly(0), 0);
        Check.land(x, land + "source 0 100 1 " + ((1 << 23) + 1) + ";");
        due("19: twice", x.wakes(0, 0), 2);
        due("20: twice is", x.badly(0), 7);
        Check.land(x, "house 0 0;house 1 0;source 0 5 1 " + ALL_HOURS + ";source 2 4 1 1;");
        due("19: 22 to 5 are 8 hours", x.wakes(0, 0), 8);
        due("19: nothing wakes", x.wakes(1, 0), 0);
        due("20: by both airs", x.badly(0), 12);
        Check.land(x, "house 0 0;source 0 4 1 " + ALL_HOURS + ";");
        due("19: 4 is too little", x.wakes(0, 0), 0);
        Check.noElement("19: house", x, () -> x.wakes(1, 0));
        Check.noElement("19: air", x, () -> x.wakes(0, 2));
        Check.noElement("20: house", x, () -> x.badly(1));
        Check.noElement("20: house -1", x, () -> x.badly(-1));
    }

    private static void meanAndHides() {
        NightSounds x = Check.with("cells 8;source 0 100 1 2;wall 1 5;house 5 0;", "weight 7;" + OVER, "weight 5;");
        due("21: 7 times 77 by 12, cut", x.mean(0, 1), 44);
        due("21: nothing then", x.mean(0, 0), 0);
        due("22: the mean is as much", x.hides(0, 1, 44), 1);
        due("22: the mean is more", x.hides(0, 1, 43), 0);
        due("22: one less than it is loud", x.hides(0, 1, 76), 1);
        due("22: as loud", x.hides(0, 1, 77), 0);
        due("22: 0", x.hides(0, 0, 0), 0);
        due("22: 120", x.hides(0, 1, 120), 0);
        Check.air(x, "weight 1;" + OVER);
        due("21: 8 times 77 by 13", x.mean(0, 1), 47);
        due("22: two", x.hides(0, 1, 50), 5);
        Check.noElement("21: house", x, () -> x.mean(1, 24));
        Check.noArgument("21: hour", x, () -> x.mean(0, 24));
        Check.noElement("22: house", x, () -> x.hides(1, 24, 121));
        Check.noArgument("22: hour", x, () -> x.hides(0, -1, 0));
        Check.noArgument("22: limit 121", x, () -> x.hides(0, 0, 121));
        Check.noArgument("22: limit -1", x, () -> x.hides(0, 0, -1));
        NightSounds none = Check.with("house 0 0;");
        due("21: without airs", none.mean(0, 0), -1);
        due("22: without airs", none.hides(0, 0, 0), 0);
    }

    // Promises 23 to 26

    private static void least() {
        NightSounds x = Check.with("cells 8;source 0 30 1 1;house 3 5;hush 0 20 3;foam 0 30 3;screen 1 9 2;screen 1 1 1;",
                "");
        due("23: the coin", x.least(0, 0, 1, 0), 2);
        due("23: the bits", x.least(0, 0, 1, 1), 4);
        due("23: an hour without", x.least(0, 1, 1, 0), 0);
        due("23: no houses", x.least(0, 0, 0, 1), 0);
        x.does(2);
        due("23: nothing is left to do", x.least(0, 0, 1, 0), 0);
        due("23: no bits", x.least(0, 0, 1, 1), 0);
        x.does(3);
        due("23: the wall is low again", x.least(0, 0, 1, 0), 3);
        due("23: of two as dear the least bits", x.least(0, 0, 1, 1), 1);
        x.does(0);
        x.does(1);
        due("23: all is done", x.least(0, 0, 1, 1), 0);
        Check.noElement("23: air, ahead of the rest", x, () -> x.least(1, 24, 2, 2));
        Check.noArgument("23: hour", x, () -> x.least(0, 24, 1, 0));
        Check.noArgument("23: bits", x, () -> x.least(0, 0, 2, 0));
        Check.noArgument("23: bits below 0", x, () -> x.least(0, 0, -1, 0));
        Check.noArgument("23: what", x, () -> x.least(0, 0, 1, 2));
    }

    private static void leastNone() {
        NightSounds x = Check.with("cells 8;source 0 30 1 1;house 0 0;screen 1 9 2;foam 0 30 3;", "");
        due("23: none does", x.least(0, 0, 1, 0), -1);
        due("23: none does, bits", x.least(0, 0, 1, 1), -1);
        Check.land(x, "cells 8;source 0 30 1 1;house 3 5;screen 1 1 1;screen 1 9 2;");
        due("23: done by number", x.least(0, 0, 1, 1), 2);
        Check.land(x, "cells 8;source 0 30 1 1;house 3 5;screen 1 9 2;screen 1 1 1;foam 0 9 1;foam 0 2 1;");
        due("23: two together", x.least(0, 0, 1, 0), 2);
        due("23: the lone one has less bits", x.least(0, 0, 1, 1), 1);
        x.does(1);
        x.does(0);
        due("23: done last", x.least(0, 0, 1, 0), 0);
        Check.land(x, "cells 8;source 0 30 1 1;house 3 5;foam 0 9 1;foam 0 2 1;");
        due("23: two foams", x.least(0, 0, 1, 1), 3);
    }

    private static void bound() {
        NightSounds x = Check.with("cells 8;source 4 30 1 1;house 1 5;house 7 5;screen 3 9 7;screen 5 9 9;hush 0 20 14;",
                "");
        due("24: one alone", x.bound(0, 0, 1), 7);
        due("24: the other alone", x.bound(0, 0, 2), 9);
        due("24: the more of both", x.bound(0, 0, 3), 9);
        due("24: none", x.bound(0, 0, 0), 0);
        due("23: together it is more", x.least(0, 0, 3, 0), 14);
        due("24: another hour", x.bound(0, 1, 3), 0);
        x.does(1);
        due("24: what is done costs nothing", x.bound(0, 0, 2), 0);
        Check.land(x, "cells 8;source 4 30 1 1;house 1 5;house 7 5;screen 3 9 7;");
        due("24: one has none", x.bound(0, 0, 3), -1);
        due("24: the one that has", x.bound(0, 0, 1), 7);
        Check.noElement("24: air", x, () -> x.bound(1, 24, 4));
        Check.noArgument("24: hour", x, () -> x.bound(0, 24, 1));
        Check.noArgument("24: bits", x, () -> x.bound(0, 0, 4));
    }

    private static void helps() {
        NightSounds x = Check.with("cells 12;source 3 50 1 1;house 0 60;house 6 0;house 11 0;house 11 9;wall 1 9;", "");
        due("25: houses behind it", x.helps(4, 0, 0, 9, 0), 2 + 4 + 8);
        due("25: 35, 18 and 18", x.helps(4, 0, 0, 9, 1), 71);
        due("25: none farther in", x.helps(7, 0, 0, 9, 0), 4 + 8);
        due("25: what stands already", x.helps(1, 0, 0, 9, 0), 0);
        due("25: a lower wall helps none", x.helps(1, 0, 0, 1, 0), 0);
        due("25: and by nothing", x.helps(1, 0, 0, 1, 1), 0);
        due("25: at a house", x.helps(6, 0, 0, 9, 0), 2 + 4 + 8);
        due("25: where it sounds", x.helps(3, 0, 0, 9, 0), 0);
        due("25: another hour", x.helps(4, 0, 1, 9, 0), 0);
        due("25: nothing is built", x.cell(4, 2), 0);
        due("25: nothing is less loud now", x.loud(11, 0, 0), 18);
        Check.noCell("25: cell", x, () -> x.helps(12, 1, 24, 0, 2));
        Check.noElement("25: air", x, () -> x.helps(0, 1, 24, 0, 2));
        Check.noArgument("25: hour", x, () -> x.helps(0, 0, 24, 1, 0));
        Check.noArgument("25: t 0", x, () -> x.helps(0, 0, 0, 0, 0));
        Check.noArgument("25: t 10", x, () -> x.helps(0, 0, 0, 10, 0));
        Check.noArgument("25: what", x, () -> x.helps(0, 0, 0, 1, 2));
    }

    private static void bell() {
        NightSounds x = Check.with("cells 9;house 0 20;house 2 0;wall 1 5;hum 0 0;hum 1 1;hum 2 0;", "layer 2 0;", "");
        due("26: high above the first house", x.bell(0, 0, 20, 1, 3), 600);
        due("26: for the second alone the first cell", x.bell(0, 0, 20, 1, 2), 101);
        due("26: an hour with a hum", x.bell(0, 1, 20, 1, 1), -1);
        due("26: another air", x.bell(1, 0, 20, 1, 3), 800);
        due("26: no houses", x.bell(0, 0, 1, 3, 0), 100);
        due("26: just where it is", x.bell(0, 0, 1, 3, 2), 102);
        Check.noElement("26: air", x, () -> x.bell(2, 24, 0, 0, 4));
        Check.noArgument("26: hour", x, () -> x.bell(0, 24, 1, 1, 1));
        Check.noArgument("26: level 0", x, () -> x.bell(0, 0, 0, 1, 1));
        Check.noArgument("26: level 121", x, () -> x.bell(0, 0, 121, 1, 1));
        Check.noArgument("26: pitch 0", x, () -> x.bell(0, 0, 1, 0, 1));
        Check.noArgument("26: pitch 4", x, () -> x.bell(0, 0, 1, 4, 1));
        Check.noArgument("26: bits", x, () -> x.bell(0, 0, 1, 1, 4));
        Check.land(x, "cells 9;house 0 0;source 0 90 1 1;");
        due("26: it alone", x.bell(0, 0, 1, 1, 1), 100);
        due("26: the loudest", x.bell(0, 0, 120, 3, 0), 100);
        Check.land(x, "cells 9;house 0 20;house 2 0;wall 1 6;ground 2 2 0 1;");
        due("26: 9 above the ground", x.bell(1, 0, 20, 1, 3), 900);
        Check.land(x, "cells 9;house 0 20;house 2 0;wall 1 7;ground 2 2 0 2;");
        due("26: 10 would do", x.bell(1, 0, 20, 1, 3), -1);
    }

    // Promises 27 and 28

    private static NightSounds station() {
        return Check.with("cells 8;source 0 100 1 1;source 7 60 1 2;house 5 30;house 3 0;wall 1 5;hum 0 16;",
                "weight 7;fine 6;" + OVER, "weight 5;fine 3;", "weight 2;fine 1;");
    }

    private static void which() {
        NightSounds x = station();
        due("27: heard", x.which(0, 0, 1, 1), 1);
        due("27: not heard", x.which(0, 0, 1, 0), 6);
        due("27: what is silent then is not heard", x.which(0, 0, 3, 1), 1);
        due("27: it can't be heard", x.which(0, 0, 2, 2), 0);
        due("27: nothing told", x.which(0, 0, 0, 0), 7);
        due("27: by just as much", x.which(0, 1, 3, 2), 7);
        due("27: another house", x.which(1, 0, 1, 0), 7);
        Check.noElement("27: house", x, () -> x.which(2, 24, 4, 0));
        Check.noArgument("27: hour", x, () -> x.which(0, 24, 0, 0));
        Check.noArgument("27: told", x, () -> x.which(0, 0, 4, 0));
        Check.noArgument("27: told below 0", x, () -> x.which(0, 0, -1, 0));
        Check.noArgument("27: heard is not of the told", x, () -> x.which(0, 0, 2, 1));
        Check.noArgument("27: heard below 0", x, () -> x.which(0, 0, 3, -1));
    }

    private static void saying() {
        NightSounds x = station();
        long[] due = {3, 4, 17, 56};
        long[] silent = {0, 1, 59, 112};
        long[] always = {59, 112, 0, 1};
        for (int what = 0; what < 4; what++) {
            int w = what;
            due("28: source 0, " + what, x.saying(0, 0, 0, what), due[what]);
            due("28: it is silent, " + what, x.saying(0, 0, 1, what), silent[what]);
            due("28: source 1, " + what, x.saying(0, 1, 1, what), always[what]);
            Check.noElement("28: house", x, () -> x.saying(2, 0, 24, w));
            Check.noElement("28: source", x, () -> x.saying(0, 2, 24, w));
        }
        Check.noArgument("28: hour", x, () -> x.saying(0, 0, 24, 0));
        Check.noArgument("28: what 4", x, () -> x.saying(0, 0, 0, 4));
        Check.noArgument("28: what -1", x, () -> x.saying(0, 0, 0, -1));
        NightSounds never = Check.with("house 0 0;source 0 9 1 1;", "fine 0;", "weight 4;fine 0;");
        due("28: never fine", never.saying(0, 0, 0, 0), 0);
        due("28: never fine, by 1", never.saying(0, 0, 0, 1), 1);
        NightSounds half = Check.with("house 0 0;source 0 9 1 1;", "");
        due("28: 4 of 8 without", half.saying(0, 0, 0, 0) * 10 + half.saying(0, 0, 0, 1), 12);
    }

    // Promises 29 and 30

    private static void tell() {
        NightSounds x = Check.with("house 0 0;house 1 0;");
        due("29: at first", x.tell(0, 999), -2);
        due("29: what it was", x.tell(0, -1), 999);
        due("29: did not hear", x.tell(0, 0), -1);
        due("29: 0", x.tell(0, -2), 0);
        due("29: nothing", x.tell(0, 5), -2);
        due("29: the other", x.tell(1, 5), -2);
        Check.noElement("29: house", x, () -> x.tell(2, 1000));
        Check.noArgument("29: 1000", x, () -> x.tell(0, 1000));
        Check.noArgument("29: -3", x, () -> x.tell(0, -3));
        due("29: a refused one changes nothing", x.tell(0, 6), 5);
    }

    private static void bang() {
        NightSounds x = Check.with("cells 12;house 4 10;house 7 0;hum 0 5;", "");
        due("30: nobody tells", x.bang(0, 0, 60, 2, 0), (1 << 12) - 1);
        due("30: the least there may be", x.bang(0, 0, 1, 1, 99), (1 << 12) - 1);
        x.tell(0, 14);
        x.tell(1, 20);
        due("30: from the left", x.bang(0, 0, 60, 2, 0), 31);
        due("30: 15 is heard, not less", x.bang(0, 0, 29, 2, 0), 0b11100);
        due("30: 3 apart is not right to 1", x.bang(0, 0, 60, 1, 1), 0);
        due("30: but to 2", x.bang(0, 0, 60, 1, 2), 31);
        x.tell(1, 14);
        due("30: between them there is no middle", x.bang(0, 0, 60, 2, 0), 0);
        due("30: right to 1", x.bang(0, 0, 60, 2, 1), 0b1100000);
        x.tell(1, -1);
        due("30: all who hear it", x.bang(0, 0, 60, 2, 0), 0);
        due("30: where it is not heard at 7", x.bang(0, 0, 25, 2, 0), 0b1000);
        x.tell(0, -2);
        due("30: silence alone", x.bang(0, 0, 25, 2, 0), 0b100000001111);
        Check.noElement("30: air", x, () -> x.bang(1, 24, 0, 0, -1));
        Check.noArgument("30: hour", x, () -> x.bang(0, 24, 1, 1, 0));
        Check.noArgument("30: level 0", x, () -> x.bang(0, 0, 0, 1, 0));
        Check.noArgument("30: level 121", x, () -> x.bang(0, 0, 121, 1, 0));
        Check.noArgument("30: v 0", x, () -> x.bang(0, 0, 1, 0, 0));
        Check.noArgument("30: v 10", x, () -> x.bang(0, 0, 1, 10, 0));
        Check.noArgument("30: d -1", x, () -> x.bang(0, 0, 1, 1, -1));
        Check.noArgument("30: d 100", x, () -> x.bang(0, 0, 1, 1, 100));
    }

    private static void bangTimes() {
        NightSounds x = Check.with("cells 40;house 0 0;house 39 0;house 20 0;", "");
        x.tell(0, 0);
        due("30: it may be ahead of 0; only so far is it heard", x.bang(0, 0, 120, 9, 0), (1L << 40) - 1);
        x.tell(1, 351);
        due("30: from the first house alone", x.bang(0, 0, 120, 9, 0), 1);
        x.tell(1, 349);
        due("30: right to 0", x.bang(0, 0, 120, 9, 0), 0);
        due("30: right to 1, from both ends of it", x.bang(0, 0, 120, 9, 1), 1);
        due("30: 18 more a cell, right to 8", x.bang(0, 0, 120, 9, 8), 0b11);
        x.tell(0, 351);
        x.tell(1, 0);
        due("30: the last cell", x.bang(0, 0, 120, 9, 0), 1L << 39);
        x.tell(0, 999);
        x.tell(1, -1);
        x.tell(2, 999);
        due("30: far from the last house", x.bang(0, 0, 45, 9, 0), 1L << 10);
    }

    // Promises 31 to 33

    private static void click() {
        NightSounds x = new NightSounds();
        Check.noArgument("31: -1", x, () -> x.click(-1));
        due("31: 0", x.click(0), 1);
        Check.noArgument("31: as late", x, () -> x.click(0));
        for (int i = 2; i < 80; i++) {
            due("31: click " + i, x.click(i), i);
        }
        Check.noArgument("31: 10,000", x, () -> x.click(10000));
        Check.noArgument("31: earlier", x, () -> x.click(78));
        due("31: the last", x.click(9998), 80);
        due("31: there are 80", x.click(9999), -1);
        due("31: still 80", x.count(1), 80);
        Check.noArgument("31: refused all the same", x, () -> x.click(9998));
    }

    private static void wagons() {
        NightSounds x = new NightSounds();
        due("32: none", x.wagons(1, 0), 0);
        due("32: no pace", x.wagons(1, 1), -1);
        int[] times = {3, 4, 9, 11, 20, 21, 22, 23, 38, 39, 40, 41};
        int[] many = {-1, -1, -1, 1, -1, -1, -1, 2, -1, -1, -1, 3};
        int[] pace = {-1, -1, -1, -1, -1, -1, -1, 100 * 12 / 17, -1, -1, -1, 100 * 12 * 2 / 35};
        for (int i = 0; i < times.length; i++) {
            x.click(times[i]);
            due("32: wagons of " + (i + 1), x.wagons(12, 0), many[i]);
            due("32: pace of " + (i + 1), x.wagons(12, 1), pace[i]);
        }
        due("32: longest", x.wagons(99, 1), 565);
        Check.noArgument("32: length 0", x, () -> x.wagons(0, 0));
        Check.noArgument("32: length 100", x, () -> x.wagons(100, 0));
        Check.noArgument("32: what 2", x, () -> x.wagons(1, 2));
        Check.noArgument("32: what -1", x, () -> x.wagons(1, -1));
    }

    private static void forget() {
        NightSounds x = new NightSounds();
        due("33: none", x.forget(), 0);
        x.click(7);
        x.click(9);
        due("33: two", x.forget(), 2);
        due("33: gone", x.count(1), 0);
        due("33: earlier ones may come", x.click(0), 1);
        due("33: one", x.forget(), 1);
    }

    // Promises 34 to 37

    private static void images() {
        NightSounds x = Check.with("house 1 5;screen 2 3 1;screen 2 7 1;foam 0 9 1;source 0 40 1 1;", "");
        due("35: none", x.restore(), -1);
        x.does(1);
        x.does(0);
        x.tell(0, 30);
        x.click(1);
        x.click(5);
        due("34: first", x.image(), 1);
        due("34: loud behind a wall of 3", x.loud(3, 0, 0), 0);
        x.does(2);
        x.tell(0, -1);
        x.click(6);
        due("34: second", x.image(), 2);
        due("34: third", x.image(), 3);
        due("34: there are 3", x.image(), -1);
        x.forget();
        x.feed(1, 2, 3, 4, 5);
        Check.noArgument("36: refused", x, () -> x.told(9));
        due("35: two left", x.restore(), 2);
        due("35: clicks of the latest", x.count(1), 3);
        x.tell(0, 77);
        due("35: one left", x.restore(), 1);
        due("35: its ear", x.ear(0), 14);
        due("35: its time", x.tell(0, 88), -1);
        due("35: none left", x.restore(), 0);
        due("35: the first's ear", x.ear(0), 5);
        due("35: the first's wall, as it was done", x.cell(2, 2), 3);
        due("35: the first's time", x.tell(0, 88), 30);
        due("35: the first's clicks", x.click(6), 3);
    }

    private static void imagesOfClicksAndFoam() {
        NightSounds x = Check.with("house 1 5;foam 0 9 1;foam 0 1 1;source 0 40 1 1;hush 0 1 1;tar 19 19 1;", "");
        int[] times = {5, 6, 9, 10, 25, 26, 29, 30};
        for (int time : times) {
            x.click(time);
        }
        x.does(0);
        x.does(2);
        x.image();
        x.does(1);
        x.does(3);
        due("10: more ear", x.ear(0), 15);
        due("10: the last cell is tarred", x.cell(19, 0), 2);
        x.forget();
        for (int time : times) {
            x.click(time * 2);
        }
        due("32: half the pace", x.wagons(12, 1), 30);
        due("35: back", x.restore(), 0);
        due("35: the pace again", x.wagons(12, 1), 60);
        due("35: no earlier click", x.click(31), 9);
        due("35: the first foam alone", x.ear(0), 14);
        due("35: the hush stays", x.loud(0, 0, 0), 39);
        due("35: the tar is gone", x.cell(19, 0), 0);
        due("35: works done", x.count(0), 2);
        due("35: what is done stays so", x.does(2), 0);
        due("35: what is undone can be done", x.does(1), 1);
    }

    private static void status() {
        NightSounds x = new NightSounds();
        Check.noCell("36", x, () -> x.cell(20, 0));
        Check.noElement("36", x, () -> x.ear(0));
        Check.noElement("36", x, () -> x.does(0));
        Check.noArgument("36", x, () -> x.hum(24));
        x.image();
        Check.noArgument("36", x, () -> x.hum(24));
        Check.noArgument("36", x, () -> x.hum(24));
        x.restore();
        x.land(0);
        due("36: cells", x.status(0), 1);
        due("36: elements", x.status(1), 2);
        due("36: arguments, no image keeps them", x.status(2), 3);
        due("36: 3", x.status(3), -1);
        due("36: -1", x.status(-1), -1);
        due("36: least", x.status(Integer.MIN_VALUE), -1);
    }

    private static void count() {
        NightSounds x = Check.with("tar 0 1 1;tar 2 3 1;");
        x.does(1);
        x.click(3);
        x.click(4);
        x.click(5);
        x.image();
        x.image();
        x.feed(0, 0, 0, 0, 0);
        due("37: works done", x.count(0), 1);
        due("37: clicks", x.count(1), 3);
        due("37: images", x.count(2), 2);
        due("37: bytes", x.count(3), 20);
        due("37: 4", x.count(4), -1);
        due("37: -1", x.count(-1), -1);
    }
}
