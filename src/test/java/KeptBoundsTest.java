/**
 * The bounds that the document names for what an object keeps: the TAPE, FAULTS, TIMES with BANGS, CLICKS with WAGONS,
 * WORKS, IMAGES, refusals; a sentence each (promises 1 to 10 and 29 to 37).
 */
public final class KeptBoundsTest {
    private static final long ALL_40 = (1L << 40) - 1;

    public static void main(String[] args) {
        newObject();
        feedUpTo600();
        feedHighestFirst();
        landOfTheFirstBytes();
        landTakesTheTape();
        faultOfTheLatest();
        faultWithSixAirs();
        tellTimes();
        doneAlready();
        bangOfNobody();
        bangRightToD();
        bangTimesOfMany();
        bangByV();
        bangHeardOrNot();
        bangLevels();
        bangHour();
        bangCells();
        clickTimes();
        clickLater();
        eightyClicks();
        fourToAWagon();
        paceOfTwo();
        paceIsCut();
        forgetAll();
        threeImages();
        restoreNone();
        imageKeepsAll();
        imagesFull();
        statusKept();
        countBounds();
        Check.end();
    }

    private static void due(String what, long got, long want) {
        Check.due(what, got, want);
    }

    /** Promise 1: "A LAND without CLAUSES; no AIRS." */
    private static void newObject() {
        NightSounds x = new NightSounds();
        int[] told = {20, 0, 0, 0, 0};
        for (int i = 0; i < told.length; i++) {
            due("1: told " + i, x.told(i), told[i]);
        }
        due("1: no fault", x.fault(), -1);
        due("1: no fault of an empty tape", x.land(0), 0);
        due("1: fault", x.fault(), -1);
        Check.noArgument("1: the tape is empty", x, () -> x.land(1));
        Check.noArgument("1: for an air too", x, () -> x.air(1));
        due("1: no clicks", x.forget(), 0);
        due("1: no images", x.restore(), -1);
        due("1: no wagons", x.wagons(99, 0), 0);
        Check.noElement("1: no house", x, () -> x.ear(0));
        Check.noElement("1: no work", x, () -> x.does(0));
        Check.noElement("1: no air", x, () -> x.at(0, 0, 0));
    }

    /** Promise 2: "NONE, doing nothing, if there would be more than 600". */
    private static void feedUpTo600() {
        NightSounds x = new NightSounds();
        for (int bytes = 20; bytes <= 600; bytes += 20) {
            due("2: fed", x.feed(0x77616c6c, 0x20302031, 0x3b202020, 0x20202020, 0x20202020), bytes);
            due("37: bytes", x.count(3), bytes);
        }
        due("2: too many", x.feed(0x3f3f3f3f, 0x3f3f3f3f, 0x3f3f3f3f, 0x3f3f3f3f, 0x3f3f3f3f), -1);
        due("2: still 600", x.count(3), 600);
        due("2: they are as they were", x.land(600), 0);
        due("2: they were walls", x.cell(0, 2), 1);
        due("2: from the first on", x.feed(0, 0, 0, 0, 0), 20);
        for (int i = 0; i < 29; i++) {
            x.feed(0, 0, 0, 0, 0);
        }
        due("2: full again", x.feed(0, 0, 0, 0, 0), -1);
        due("2: no refusal", x.status(2), 0);
    }

    /** "Twenty bytes come on the TAPE, of each number the highest first": each of them, the last one too. */
    private static void feedHighestFirst() {
        for (int i = 0; i < 20; i++) {
            NightSounds x = new NightSounds();
            int[] numbers = {0x20202020, 0x20202020, 0x20202020, 0x20202020, 0x20202020};
            numbers[i / 4] ^= 0xDF << 24 - i % 4 * 8;
            x.feed(numbers[0], numbers[1], numbers[2], numbers[3], numbers[4]);
            due("2: byte 255", x.land(20), -9);
            due("2: where it is", x.fault(), i);
            x.feed(numbers[0], numbers[1], numbers[2], numbers[3], numbers[4]);
            due("2: up to it", x.land(i), 0);
        }
        NightSounds x = new NightSounds();
        x.feed(-1, Integer.MIN_VALUE, Integer.MAX_VALUE, 0, 1);
        due("2: the first byte", x.land(20), -9);
        due("2: at 0", x.fault(), 0);
    }

    /** Promise 3: "The first n bytes of the TAPE (empty then)"; "n is not 0 to the TAPE's bytes (it stays)". */
    private static void landOfTheFirstBytes() {
        NightSounds x = new NightSounds();
        Check.feed(x, "house 0 7;house 0 8;house 0 9;");
        due("3: on the tape", x.count(3), 40);
        Check.noArgument("3: 41", x, () -> x.land(41));
        Check.noArgument("3: -1", x, () -> x.land(-1));
        due("3: it stays", x.count(3), 40);
        due("3: the first 20", x.land(20), 2);
        due("3: empty then", x.count(3), 0);
        Check.noArgument("3: 1 of none", x, () -> x.land(1));
        due("3: 0 of none", x.land(0), 0);
        Check.feed(x, "house 0 7;");
        due("3: 0 of 20", x.land(0), 0);
        due("3: empty by 0 too", x.count(3), 0);
        Check.feed(x, "house 0 7;          ");
        due("3: all 20", x.land(20), 1);
        Check.feed(x, "x");
        due("3: a fault", x.land(1), -9);
        due("3: empty by a fault too", x.count(3), 0);
    }

    /** "(TIMES, CLICKS, IMAGES gone; AIRS stay)", by an empty LAND and by the same again. */
    private static void landTakesTheTape() {
        for (String land : new String[] {"house 3 7;foam 0 1 1;", "house 3 9;"}) {
            NightSounds x = Check.with("house 3 7;foam 0 1 1;", "weight 3;", "weight 4;");
            x.does(0);
            x.tell(0, 5);
            x.click(9999);
            x.image();
            x.image();
            due("3: a new land", Check.land(x, land), 1);
            due("3: works undone", x.count(0), 0);
            due("3: clicks gone", x.count(1), 0);
            due("3: images gone", x.restore(), -1);
            due("3: any click may come", x.click(0), 1);
            due("3: times gone", x.tell(0, 1), -2);
            due("3: airs stay", x.told(4), 2);
            due("3: with their weights", x.nights(0, 0, 1), 7);
            due("3: ear as told", x.ear(0), land.equals("house 3 9;") ? 9 : 7);
            due("3: three images again", x.image() + x.image() + x.image(), 6);
        }
    }

    /** Promise 5: "The place of the FAULT of the latest text; NONE without." */
    private static void faultOfTheLatest() {
        NightSounds x = new NightSounds();
        Check.land(x, "x");
        due("5: at 0", x.fault(), 0);
        due("5: asked again", x.fault(), 0);
        Check.feed(x, "y");
        due("5: bytes alone are no text", x.fault(), 0);
        x.air(0);
        due("5: an air without", x.fault(), -1);
        Check.air(x, "wind 5;");
        due("5: an air's", x.fault(), 5);
        Check.land(x, "");
        due("5: a land without", x.fault(), -1);
        Check.air(x, " x");
        due("5: an air's again", x.fault(), 1);
        Check.land(x, "  x");
        due("5: a land's behind it", x.fault(), 2);
        Check.noArgument("5: no text", x, () -> x.land(1));
        Check.noArgument("5: no air", x, () -> x.air(-1));
        due("5: it is as it was", x.fault(), 2);
        x.image();
        x.restore();
        due("5: no image keeps it", x.fault(), 2);
    }

    /** Promise 4: "-1: there are 6", whatever the bytes are; no FAULT of theirs is told. */
    private static void faultWithSixAirs() {
        for (String text : new String[] {"", "x", "wind 5;", "wind 1;".repeat(21), "wind"}) {
            NightSounds x = Check.with("", "", "", "", "", "");
            due("4: the sixth may be wrong", Check.air(x, "x"), -9);
            due("4: the sixth", Check.air(x, ""), 5);
            Check.land(x, "  x");
            due("4: a seventh", Check.air(x, text), -1);
            due("5: no fault of it", x.fault(), -1);
            due("4: the tape is empty", x.count(3), 0);
            due("6: six", x.told(4), 6);
            Check.noArgument("4: n is refused ahead", x, () -> x.air(1));
        }
    }

    /** Promise 29: "(0 to 999; NONE: it did not hear it; -2: it tells nothing, as at first): what it was". */
    private static void tellTimes() {
        NightSounds x = Check.with("house 0 0;".repeat(8));
        int[] times = {0, 999, -1, -2, 1, 998, 500, 0};
        for (int house = 0; house < 8; house++) {
            due("29: at first", x.tell(house, times[house]), -2);
        }
        for (int house = 0; house < 8; house++) {
            int k = house;
            Check.noArgument("29: 1000", x, () -> x.tell(k, 1000));
            Check.noArgument("29: -3", x, () -> x.tell(k, -3));
            due("29: what it was", x.tell(house, -2), times[house]);
            due("29: nothing again", x.tell(house, -2), -2);
        }
        Check.noElement("29: no house 8", x, () -> x.tell(8, 0));
        Check.noElement("29: no house -1", x, () -> x.tell(-1, 0));
    }

    /** Promise 10: "A WORK is done: 1; 0: it was already." */
    private static void doneAlready() {
        NightSounds x = Check.with("house 0 60;" + "foam 0 30 1;".repeat(8));
        for (int work = 0; work < 8; work++) {
            due("10: done", x.does(work), 1);
            due("10: already", x.does(work), 0);
            due("10: just once", x.ear(0), 90 + 30 * work);
            due("37: works done", x.count(0), work + 1);
        }
        Check.noElement("10: no ninth", x, () -> x.does(8));
        Check.noElement("10: none below", x, () -> x.does(-1));
        for (int work = 0; work < 8; work++) {
            due("10: all are done", x.does(work), 0);
        }
    }

    /** Promise 30: nobody tells: it may be from everywhere; without HOUSES too. */
    private static void bangOfNobody() {
        due("30: 8 cells", Check.with("cells 8;house 0 0;", "").bang(0, 0, 1, 1, 0), 255);
        due("30: 20 cells", Check.with("", "").bang(0, 0, 120, 9, 99), (1 << 20) - 1);
        due("30: 40 cells", Check.with("cells 40;house 0 0;", "").bang(0, 0, 1, 1, 0), ALL_40);
        NightSounds x = Check.with("cells 40;house 0 0;", "");
        x.tell(0, 7);
        x.tell(0, -2);
        due("30: told no more", x.bang(0, 0, 1, 1, 0), ALL_40);
    }

    /** "told TIMES are right to d": two of them are at most twice that apart. */
    private static void bangRightToD() {
        for (int d : new int[] {0, 1, 2, 49, 98, 99}) {
            NightSounds x = Check.with("cells 8;house 3 0;house 3 0;", "");
            x.tell(0, 300);
            x.tell(1, 300 + 2 * d);
            due("30: twice " + d + " apart", x.bang(0, 0, 1, 1, d), 8);
            x.tell(1, 300 - 2 * d);
            due("30: twice " + d + " earlier", x.bang(0, 0, 1, 1, d), 8);
            x.tell(1, 301 + 2 * d);
            due("30: one more", x.bang(0, 0, 1, 1, d), 0);
            x.tell(1, 299 - 2 * d);
            due("30: one more, earlier", x.bang(0, 0, 1, 1, d), 0);
        }
        NightSounds x = Check.with("cells 8;house 3 0;house 3 0;", "");
        x.tell(0, 0);
        x.tell(1, 999);
        due("30: as far apart as can be", x.bang(0, 0, 120, 9, 99), 0);
    }

    /** Of all eight the earliest and the latest count. */
    private static void bangTimesOfMany() {
        for (int odd = 0; odd < 8; odd++) {
            NightSounds x = Check.with("cells 8;" + "house 3 0;".repeat(8), "");
            for (int house = 0; house < 8; house++) {
                x.tell(house, house == odd ? 104 : 100);
            }
            due("30: right to 2", x.bang(0, 0, 1, 1, 2), 8);
            due("30: right to 1", x.bang(0, 0, 1, 1, 1), 0);
            x.tell(odd, 96);
            due("30: earlier, right to 2", x.bang(0, 0, 1, 1, 2), 8);
            due("30: earlier, right to 1", x.bang(0, 0, 1, 1, 1), 0);
            x.tell(odd, -2);
            due("30: that one tells nothing", x.bang(0, 0, 1, 1, 0), 8);
            x.tell(odd, -1);
            due("30: that one did not hear it", x.bang(0, 0, 1, 1, 0), 0);
        }
    }

    /** "It goes a CELL in v"; its own time may be any. */
    private static void bangByV() {
        for (int v = 1; v <= 9; v++) {
            NightSounds x = Check.with("cells 40;house 0 0;house 39 0;", "");
            x.tell(0, 0);
            x.tell(1, 39 * v);
            due("30: from the first, by " + v, x.bang(0, 0, 120, v, 0), 1);
            x.tell(1, 39 * v - 2);
            due("30: a cell on changes by twice v", x.bang(0, 0, 120, v, 0), v == 1 ? 2 : 0);
            x.tell(0, 39 * v);
            x.tell(1, 0);
            due("30: from the last, by " + v, x.bang(0, 0, 120, v, 0), 1L << 39);
            x.tell(0, -2);
            due("30: long ahead of 0", x.bang(0, 0, 120, v, 0), ALL_40);
        }
        NightSounds x = Check.with("cells 8;house 0 0;house 7 0;", "");
        Check.noArgument("30: v 0", x, () -> x.bang(0, 0, 1, 0, 0));
        Check.noArgument("30: v 10", x, () -> x.bang(0, 0, 1, 10, 0));
        Check.noArgument("30: d -1", x, () -> x.bang(0, 0, 1, 1, -1));
        Check.noArgument("30: d 100", x, () -> x.bang(0, 0, 1, 1, 100));
    }

    /** "those who did not hear it do not HEAR it .., and those who did do": by 1, and by EAR and HUM. */
    private static void bangHeardOrNot() {
        NightSounds x = Check.with("cells 8;house 4 0;", "");
        x.tell(0, 9);
        due("30: 8 is heard a cell away", x.bang(0, 0, 8, 1, 0), 0b00111000);
        due("30: 7 is not", x.bang(0, 0, 7, 1, 0), 0b00010000);
        x.tell(0, -1);
        due("30: who did not, of 8", x.bang(0, 0, 8, 1, 0), 0b11000111);
        due("30: who did not, of 7", x.bang(0, 0, 7, 1, 0), 0b11101111);
        due("30: who did not, of 1", x.bang(0, 0, 1, 1, 0), 0b11101111);
        x = Check.with("cells 8;house 4 5;hum 1 3;hum 2 2;", "");
        x.tell(0, 9);
        due("30: 8 of 8 a cell away", x.bang(0, 1, 15, 1, 0), 0b00111000);
        due("30: 7 of 8 a cell away", x.bang(0, 1, 14, 1, 0), 0b00010000);
        due("30: 7 of 7 a cell away", x.bang(0, 2, 14, 1, 0), 0b00111000);
        due("30: 7 of 8", x.bang(0, 1, 7, 1, 0), 0);
        due("30: 8 of 8", x.bang(0, 1, 8, 1, 0), 16);
    }

    /** "LEVEL (1 to 120)"; PITCH is 1, the PLACE 1 above the ground. */
    private static void bangLevels() {
        NightSounds x = Check.with("cells 40;house 0 60;house 39 0;hum 0 40;hum 12 0;", "");
        Check.noArgument("30: level 0", x, () -> x.bang(0, 0, 0, 1, 0));
        Check.noArgument("30: level 121", x, () -> x.bang(0, 0, 121, 1, 0));
        x.tell(0, 9);
        due("30: 100 of 100", x.bang(0, 0, 100, 1, 0), 1);
        due("30: 99 of 100", x.bang(0, 0, 99, 1, 0), 0);
        due("30: 120, up to 105", x.bang(0, 0, 120, 1, 0), 0b1111);
        due("30: in another hour", x.bang(0, 12, 60, 1, 0), 1);
        x.tell(0, -2);
        x.tell(1, 9);
        due("30: 75 is eaten 39 cells away", x.bang(0, 12, 75, 1, 0), ALL_40 - 1);
        due("30: 76 is one more", x.bang(0, 12, 76, 1, 0), ALL_40);
        NightSounds walled = Check.with("cells 8;house 4 0;wall 3 2;wall 5 1;", "");
        walled.tell(0, 9);
        due("30: over a wall of 1, not of 2", walled.bang(0, 0, 120, 1, 0), 0b11111000);
    }

    private static void bangHour() {
        NightSounds x = Check.with("cells 8;house 4 0;", "");
        Check.noArgument("30: hour 24", x, () -> x.bang(0, 24, 1, 1, 0));
        Check.noArgument("30: hour -1", x, () -> x.bang(0, -1, 1, 1, 0));
        Check.noElement("30: air 1", x, () -> x.bang(1, 0, 1, 1, 0));
        Check.noElement("30: air -1", x, () -> x.bang(-1, 24, 0, 0, -1));
        due("30: hour 23", x.bang(0, 23, 1, 1, 0), 255);
    }

    /** "CELLS, as bits": each by itself, of 40. */
    private static void bangCells() {
        for (int cell = 0; cell < 40; cell += 13) {
            NightSounds x = Check.with("cells 40;house " + cell + " 0;", "");
            x.tell(0, 999);
            due("30: from " + cell + " alone", x.bang(0, 0, 7, 9, 99), 1L << cell);
        }
    }

    /** Promise 31: "not 0 to 9,999". */
    private static void clickTimes() {
        NightSounds x = new NightSounds();
        Check.noArgument("31: -1", x, () -> x.click(-1));
        Check.noArgument("31: 10,000", x, () -> x.click(10000));
        due("31: none came", x.count(1), 0);
        due("31: 9,999 is the first", x.click(9999), 1);
        Check.noArgument("31: none is later", x, () -> x.click(9999));
        Check.noArgument("31: nor 10,000", x, () -> x.click(10000));
        x.forget();
        due("31: 0 is the first", x.click(0), 1);
        Check.noArgument("31: 0 again", x, () -> x.click(0));
        due("31: 9,999 is the second", x.click(9999), 2);
    }

    /** "or not later than the one ahead". */
    private static void clickLater() {
        NightSounds x = new NightSounds();
        x.click(50);
        Check.noArgument("31: as late", x, () -> x.click(50));
        Check.noArgument("31: earlier", x, () -> x.click(49));
        Check.noArgument("31: 0", x, () -> x.click(0));
        due("31: just later", x.click(51), 2);
        Check.noArgument("31: later than the first alone", x, () -> x.click(51));
        x.image();
        x.click(60);
        x.restore();
        due("35: later than in the image", x.click(52), 3);
    }

    /** "-1: there are 80". */
    private static void eightyClicks() {
        NightSounds x = new NightSounds();
        for (int i = 1; i <= 80; i++) {
            due("31: click", x.click(100 + i), i);
        }
        due("31: an 81st", x.click(181), -1);
        due("31: the latest", x.click(9999), -1);
        due("31: 80 yet", x.count(1), 80);
        Check.noArgument("31: refused ahead of that: as late", x, () -> x.click(180));
        Check.noArgument("31: refused ahead of that: too late", x, () -> x.click(10000));
        due("32: 20 wagons", x.wagons(1, 0), 20);
        due("32: their pace, 100 by 4", x.wagons(1, 1), 25);
        due("33: all go", x.forget(), 80);
        due("31: one again", x.click(0), 1);
    }

    /** Promise 32: "WAGONS (what 0; NONE: not 4 each)". */
    private static void fourToAWagon() {
        NightSounds x = new NightSounds();
        for (int i = 0; i <= 80; i++) {
            due("32: of " + i, x.wagons(1, 0), i % 4 == 0 ? i / 4 : -1);
            due("32: pace of " + i, x.wagons(99, 1), i % 4 == 0 && i >= 8 ? 2475 : -1);
            x.click(i);
        }
    }

    /** "PACE by a length (1 to 99; what 1; NONE, or fewer than two)". */
    private static void paceOfTwo() {
        NightSounds x = new NightSounds();
        int[] times = {10, 11, 12, 13, 20, 21, 22, 9999};
        due("32: of none", x.wagons(1, 1), -1);
        for (int i = 0; i < 8; i++) {
            due("32: not of " + i, x.wagons(1, 1), -1);
            x.click(times[i]);
        }
        due("32: the least length", x.wagons(1, 1), 10);
        due("32: the greatest", x.wagons(99, 1), 990);
        Check.noArgument("32: 0", x, () -> x.wagons(0, 1));
        Check.noArgument("32: 100", x, () -> x.wagons(100, 1));
        Check.noArgument("32: what 2", x, () -> x.wagons(1, 2));
        Check.noArgument("32: what -1", x, () -> x.wagons(1, -1));
    }

    /** "100 times a wagon's length, times WAGONS less 1, by that time (cut)". */
    private static void paceIsCut() {
        int[][] rows = {{4, 99, 2475}, {7, 1, 14}, {99, 1, 1}, {100, 1, 1}, {101, 1, 0}, {9900, 99, 1}, {9901, 99, 0},
            {9996, 99, 0}, {3333, 99, 2}};
        for (int[] row : rows) {
            NightSounds x = new NightSounds();
            for (int i = 0; i < 8; i++) {
                x.click(i < 4 ? i : row[0] + i - 4);
            }
            due("32: " + row[1] + " in " + row[0], x.wagons(row[1], 1), row[2]);
        }
    }

    /** Promise 33: "All CLICKS go: how many." */
    private static void forgetAll() {
        NightSounds x = new NightSounds();
        due("33: none", x.forget(), 0);
        x.click(9999);
        due("33: one", x.forget(), 1);
        due("33: none again", x.forget(), 0);
        due("32: no wagons", x.wagons(1, 0), 0);
        x.click(5);
        x.image();
        due("33: not the image's", x.forget(), 1);
        x.restore();
        due("35: it is back", x.count(1), 1);
        Check.noArgument("35: and counts", x, () -> x.click(5));
    }

    /** Promise 34: "how many there are; -1: there are 3". */
    private static void threeImages() {
        NightSounds x = Check.with("house 0 0;");
        for (int i = 1; i <= 3; i++) {
            x.tell(0, i);
            due("34: an image", x.image(), i);
        }
        x.tell(0, 4);
        due("34: a fourth", x.image(), -1);
        due("34: three yet", x.count(2), 3);
        for (int i = 3; i >= 1; i--) {
            due("35: left", x.restore(), i - 1);
            due("35: the latest's", x.tell(0, 9), i);
        }
        due("35: none", x.restore(), -1);
        due("35: it changed nothing", x.tell(0, 9), 9);
        due("34: an image again", x.image(), 1);
    }

    /** Promise 35: "-1: there is none". */
    private static void restoreNone() {
        NightSounds x = Check.with("house 0 0;foam 0 1 1;");
        x.does(0);
        x.tell(0, 7);
        x.click(3);
        due("35: none", x.restore(), -1);
        due("35: works", x.count(0), 1);
        due("35: clicks", x.count(1), 1);
        due("35: times", x.tell(0, 7), 7);
        due("36: not refused", x.status(0) + x.status(1) + x.status(2), 0);
    }

    /** "An IMAGE of WORKS that are done, TIMES, CLICKS"; LAND, AIRS, TAPE, FAULT and refusals are as they are. */
    private static void imageKeepsAll() {
        NightSounds x = Check.with("house 3 9;source 3 50 1 1;foam 0 1 1;hush 0 50 1;screen 2 9 1;tar 4 4 1;", "");
        x.image();
        for (int work = 0; work < 4; work++) {
            x.does(work);
        }
        x.tell(0, 8);
        x.click(8);
        Check.air(x, "weight 9;");
        Check.air(x, "  x");
        x.feed(0, 0, 0, 0, 0);
        Check.noCell("36: one", x, () -> x.cell(20, 0));
        due("10: all are done", x.ear(0) * 1000 + x.loud(3, 0, 0) * 100 + x.cell(2, 2) * 10 + x.cell(4, 0), 10092);
        due("35: none left", x.restore(), 0);
        due("35: all are undone", x.ear(0) * 1000 + x.loud(3, 0, 0) * 100 + x.cell(2, 2) * 10 + x.cell(4, 0), 14000);
        due("35: times", x.tell(0, 8), -2);
        due("35: clicks", x.count(1), 0);
        due("35: works", x.count(0), 0);
        due("35: airs stay", x.told(4), 2);
        due("35: the tape stays", x.count(3), 20);
        due("35: the fault stays", x.fault(), 2);
        due("36: no image keeps it", x.status(0), 1);
        due("35: it can be done again", x.does(1), 1);
        due("35: and is", x.loud(3, 0, 0), 0);
    }

    /** Full IMAGES: eight WORKS in their order, eight TIMES, 80 CLICKS. */
    private static void imagesFull() {
        NightSounds x = Check.with("house 0 0;".repeat(8) + "screen 5 1 1;screen 5 2 1;screen 5 3 1;screen 5 4 1;screen 5 5 1;"
                + "screen 5 6 1;screen 5 7 1;screen 5 8 1;");
        for (int i = 0; i < 8; i++) {
            x.does(7 - (i + 3) % 8);
            x.tell(i, 900 + i);
        }
        due("10: the last one done", x.cell(5, 2), 6);
        for (int i = 0; i < 80; i++) {
            x.click(2 * i);
        }
        due("34: an image", x.image(), 1);
        x.forget();
        for (int i = 0; i < 8; i++) {
            x.tell(i, -1);
            x.click(3 * i + 1);
        }
        due("35: back", x.restore(), 0);
        due("35: the last one done", x.cell(5, 2), 6);
        due("35: all works", x.count(0), 8);
        due("35: all clicks", x.count(1), 80);
        due("35: their pace", x.wagons(99, 1), 1237);
        Check.noArgument("35: the last click", x, () -> x.click(158));
        for (int i = 0; i < 8; i++) {
            due("35: times", x.tell(i, 0), 900 + i);
        }
    }

    /** Promise 36: "NONE for others. (No IMAGE keeps it.)"; no LAND takes it. */
    private static void statusKept() {
        NightSounds x = new NightSounds();
        x.image();
        for (int i = 0; i < 3; i++) {
            Check.noCell("36: cell", x, () -> x.cell(-1, -1));
        }
        for (int i = 0; i < 2; i++) {
            Check.noElement("36: element", x, () -> x.ear(0));
        }
        Check.noArgument("36: argument", x, () -> x.told(-1));
        x.restore();
        x.land(0);
        x.air(0);
        int[] due = {3, 2, 1};
        for (int i = 0; i < 3; i++) {
            due("36: " + i, x.status(i), due[i]);
        }
        for (int other : new int[] {-1, 3, -2, 4, Integer.MIN_VALUE, Integer.MAX_VALUE}) {
            due("36: others", x.status(other), -1);
        }
        due("36: to ask is no refusal", x.status(2), 1);
    }

    /** Promise 37: "NONE for others". */
    private static void countBounds() {
        NightSounds x = new NightSounds();
        for (int what = 0; what < 4; what++) {
            due("37: none", x.count(what), 0);
        }
        for (int other : new int[] {-1, 4, -2, 5, Integer.MIN_VALUE, Integer.MAX_VALUE}) {
            due("37: others", x.count(other), -1);
        }
        due("37: to ask is no refusal", x.status(2), 0);
    }
}
