/** The bounds that the document's terms name for the text of an AIR, a sentence each. */
public final class AirBoundsTest {
    public static void main(String[] args) {
        upTo200Bytes();
        noRules();
        atMost20Rules();
        sixAirs();
        layerNumbers();
        layerBends();
        highLayersBend();
        wind();
        weight();
        weightWithout();
        fine();
        fineWithout();
        ofOneTheLastCounts();
        wordsAndBlanks();
        endsTooEarly();
        firstFromTheLeft();
        ofOneTheLeast();
        faultLeavesAll();
        airTakesNothingFromTheLand();
        Check.end();
    }

    private static void due(String what, long got, long want) {
        Check.due(what, got, want);
    }

    private static void right(String text) {
        Check.airText(text, 0, 0);
    }

    private static void wrong(String text, int fault, int place) {
        Check.airText(text, fault, place);
    }

    private static void number(String ahead, int low, int high, String behind) {
        Check.numberBounds(Check::airText, ahead, low, high, behind);
    }

    /** "An AIR is a text of up to 200 bytes": the 200th counts, a 201st is refused, be it a blank. */
    private static void upTo200Bytes() {
        String full = " ".repeat(190) + "weight 07;";
        NightSounds x = Check.with("house 0 0;");
        Check.feed(x, full + " ");
        Check.noArgument("201 bytes", x, () -> x.air(201));
        Check.noArgument("600 bytes", x, () -> x.air(600));
        due("the tape stays", x.count(3), 220);
        due("200 bytes", x.air(200), 0);
        due("the last counts", x.nights(0, 0, 1), 7);
        due("the tape is empty", x.count(3), 0);
        Check.feed(x, full);
        due("199 of them", x.air(199), -9);
        due("the text ends at 199", x.fault(), 199);
        Check.feed(x, full.substring(0, 199) + " ");
        due("200, too early", x.air(200), -9);
        due("the text ends at 200", x.fault(), 200);
        Check.feed(x, "wind 2;");
        Check.noArgument("more than there are", x, () -> x.air(21));
        Check.noArgument("less than none", x, () -> x.air(-1));
        due("all there are", x.air(20), -9);
        due("the first byte behind the rule", x.fault(), 7);
    }

    /** "{ RULE ";" }": there may be none; each has its sign. */
    private static void noRules() {
        right("");
        right(" ");
        right(" ".repeat(200));
        wrong(";", 1, 0);
        wrong("wind 1;;", 1, 7);
        wrong("wind 1", 1, 6);
        wrong("wind 1 wind 1;", 1, 7);
        wrong("wind 1:", 1, 6);
    }

    /** "at most 20"; FAULT 3, a RULE too many (at its word). */
    private static void atMost20Rules() {
        right("wind 1;".repeat(19));
        right("wind 1;".repeat(20));
        right("wind 1;".repeat(20) + " ".repeat(60));
        wrong("wind 1;".repeat(21), 3, 140);
        wrong("wind 1;".repeat(20) + "  fine 1;", 3, 142);
        wrong("wind 1;".repeat(20) + "layer", 3, 140);
        wrong("wind 1;".repeat(20) + "weight 100;", 3, 140);
    }

    /** "its number, from 0 on"; "-1: there are 6". */
    private static void sixAirs() {
        NightSounds x = Check.with("house 0 0;");
        for (int i = 0; i < 6; i++) {
            due("airs", x.told(4), i);
            int none = i;
            Check.noElement("no air " + i, x, () -> x.hears(none, 0));
            due("air " + i, Check.air(x, "weight 1" + i + ";"), i);
            due("it is there", x.hears(i, 0), 0);
        }
        due("no seventh", Check.air(x, "weight 99;"), -1);
        due("6 airs", x.told(4), 6);
        due("their weights", x.nights(0, 0, 1), 75);
        due("the tape is empty", x.count(3), 0);
        due("it is not refused", x.status(2), 0);
        Check.noElement("no air 6", x, () -> x.hears(6, 0));
        due("a land leaves them", Check.land(x, "house 0 0;"), 1);
        due("6 airs yet", x.told(4), 6);
        due("no seventh for it", Check.air(x, ""), -1);
    }

    /** "layer Z B (LAYER Z, 0 to 11, bends by B less 2, B 0 to 4)". */
    private static void layerNumbers() {
        number("layer ", 0, 11, " 0;");
        number("layer 0 ", 0, 4, ";");
        number("layer 11 ", 0, 4, ";");
    }

    /** PLACES 2 Z and 2 Z + 1 are of LAYER Z; without, it bends by 0. */
    private static void layerBends() {
        for (int z = 0; z < 12; z++) {
            for (int b = 0; b <= 4; b++) {
                bendsFrom(0, 0, z, b);
                bendsFrom(9, -3, z, b);
            }
        }
    }

    /** Of a SOURCE so high, with SLOPES from the least on: the PLACE two CELLS away. */
    private static void bendsFrom(int height, int least, int z, int b) {
        NightSounds x = Check.with("ground 0 0 0 " + height + ";source 0 99 1 1;", "layer " + z + " " + b + ";");
        for (int slope = least; slope <= 6; slope++) {
            int first = height + 1 + slope;
            int bent = first / 2 == z ? Math.min(6, slope + b - 2) : slope;
            due("slope " + slope + " at first", x.ray(0, 0, 0, slope, 1), first);
            due("slope " + slope + " by layer " + z + " " + b, x.ray(0, 0, 0, slope, 2), Math.max(0, first + bent));
        }
    }

    /** 18 and 19 are of LAYER 9, 20 and 21 of 10, 22 to 24 of 11. */
    private static void highLayersBend() {
        places("layer 11 0;", 9, 4, 10, 14, 18, 22, 24, 24, 22, 18, 14);
        places("layer 11 0;", 8, 2, 9, 11, 13, 15, 17, 19, 21, 23, 23, 21, 19);
        places("layer 10 0;", 9, 4, 10, 14, 18, 22, -1);
        places("layer 10 0;", 9, 5, 10, 15, 20, 23, -1);
        places("layer 10 0;", 8, 4, 9, 13, 17, 21, 23, -1);
        places("layer 9 0;", 9, 4, 10, 14, 18, 20, 22, 24, -1);
        places("layer 9 0;", 8, 5, 9, 14, 19, 22, -1);
        places("layer 11 1;layer 10 4;", 9, 2, 10, 12, 14, 16, 18, 20, 24, -1);
        places("layer 11 1;layer 10 2;", 9, 2, 10, 12, 14, 16, 18, 20, 22, 23, 23, 22, 20);
    }

    private static void places(String air, int height, int slope, int... due) {
        NightSounds x = Check.with("ground 0 0 0 " + height + ";source 0 120 1 1;", air);
        for (int i = 0; i < due.length; i++) {
            due(air + " from " + height + " by " + slope + " at " + i, x.ray(0, 0, 0, slope, i), due[i]);
        }
    }

    /** "wind W (0 to 4: W less 2)"; "0 without". */
    private static void wind() {
        number("wind ", 0, 4, ";");
        for (int w = 0; w <= 4; w++) {
            NightSounds x = Check.with("source 9 99 1 1;", "wind " + w + ";", "");
            due("to the right by " + w, x.ray(0, 0, 0, 2, 2), 3 + 2 + w - 2);
            due("to the left by " + w, x.ray(0, 0, 1, 2, 2), 3 + 2 - w + 2);
            due("to the right without", x.ray(1, 0, 0, 2, 2), 5);
            due("to the left without", x.ray(1, 0, 1, 2, 2), 5);
        }
    }

    /** "weight G (1 to 99". */
    private static void weight() {
        number("weight ", 1, 99, ";");
        due("the least", Check.with("house 0 0;", "weight 1;").nights(0, 0, 1), 1);
        due("the greatest", Check.with("house 0 0;", "weight 99;").nights(0, 0, 1), 99);
        NightSounds six = Check.with("house 0 0;", "weight 99;", "weight 99;", "weight 99;", "weight 99;", "weight 99;",
                "weight 99;");
        due("six times the greatest", six.nights(0, 0, 1), 594);
    }

    /** "1 without". */
    private static void weightWithout() {
        due("without", Check.with("house 0 0;", "fine 8;wind 4;").nights(0, 0, 1), 1);
        due("two without", Check.with("house 0 0;", "", " ").nights(0, 0, 1), 2);
    }

    /** "fine F (0 to 8 of 8 morrows are fine". */
    private static void fine() {
        number("fine ", 0, 8, ";");
        int[][] due = {{0, 1}, {1, 8}, {1, 4}, {3, 8}, {1, 2}, {5, 8}, {3, 4}, {7, 8}, {1, 1}};
        for (int f = 0; f <= 8; f++) {
            NightSounds x = Check.with("house 0 0;source 0 1 1 1;", "fine " + f + ";weight 99;");
            due(f + " of 8, above", x.saying(0, 0, 0, 0), due[f][0]);
            due(f + " of 8, below", x.saying(0, 0, 0, 1), due[f][1]);
        }
    }

    /** "4 without". */
    private static void fineWithout() {
        NightSounds x = Check.with("house 0 0;source 0 1 1 1;", "weight 7;");
        due("above", x.saying(0, 0, 0, 0), 1);
        due("below", x.saying(0, 0, 0, 1), 2);
    }

    /** "of one the last counts": of one LAYER, the wind, the weight, how fine. */
    private static void ofOneTheLastCounts() {
        NightSounds x = Check.with("house 9 0;source 9 99 1 1;", "layer 0 4;layer 1 0;layer 0 3;", "wind 4;wind 1;",
                "weight 99;weight 2;", "fine 8;fine 1;", "layer 0 4;layer 0 2;");
        due("layer 0", x.ray(0, 0, 0, 0, 2), 2);
        due("layer 1", x.ray(0, 0, 0, 1, 2), 1);
        due("the wind", x.ray(1, 0, 0, 1, 2), 2);
        due("a layer of 0 at last", x.ray(4, 0, 0, 0, 2), 1);
        due("the weights", x.nights(0, 0, 1), 1 + 1 + 2 + 1 + 1);
        due("how fine: 21 by 48, above", x.saying(0, 0, 0, 0), 7);
        due("how fine: 21 by 48, below", x.saying(0, 0, 0, 1), 16);
    }

    private static void wordsAndBlanks() {
        for (String word : new String[] {"layer", "wind", "weight", "fine"}) {
            wrong(word.substring(0, word.length() - 1) + " 1 1;", 1, 0);
            wrong(word + "s 1 1;", 1, 0);
            wrong("a" + word + " 1 1;", 1, 0);
            wrong(word.toUpperCase() + " 1 1;", 1, 0);
            wrong(word + "` 1 1;", 1, word.length());
            wrong(word + "{ 1 1;", 1, word.length());
            wrong(word + " 1 1 1;", 1, word.length() + (word.equals("layer") ? 5 : 3));
            wrong(word + ";", 1, word.length());
        }
        for (String word : new String[] {"cells", "ground", "wall", "house", "hum", "source", "screen", "tar", "hush", "foam"}) {
            wrong(word + " 8;", 1, 0);
        }
        right("   layer   1   2   ;   wind   1   ;   ");
        right("layer1 2;wind1;");
        wrong("layer 1;", 1, 7);
        wrong("layer 12;", 2, 6);
        for (int sign : new int[] {0, 9, 10, 31, 33, 127, 160, 255}) {
            String other = String.valueOf((char) sign);
            wrong(other + "wind 1;", 1, 0);
            wrong("wind" + other + "1;", 1, 4);
            wrong("wind 1" + other + ";", 1, 6);
            wrong("wind 1;" + other, 1, 7);
        }
    }

    /** FAULT 1 "at the length, if the text ends too early". */
    private static void endsTooEarly() {
        for (String rule : new String[] {"layer 1 2;", "wind 1;", "weight 1;", "fine 1;"}) {
            int word = rule.indexOf(' ');
            for (int n = 1; n < rule.length(); n++) {
                NightSounds x = new NightSounds();
                Check.feed(x, " " + rule);
                due("too early " + n + " of " + rule, x.air(1 + n), -9);
                due("where " + n + " of " + rule + " ends", x.fault(), 1 + (n < word ? 0 : n));
            }
        }
    }

    private static void firstFromTheLeft() {
        wrong("layer 12 5;", 2, 6);
        wrong("layer 0 5;wind 5;", 2, 8);
        wrong("layer x 5;", 1, 6);
        wrong("weight 0;x", 2, 7);
        wrong("x weight 0;", 1, 0);
    }

    private static void ofOneTheLeast() {
        wrong("wind 1;".repeat(20) + "x", 1, 140);
        wrong("wind 1;".repeat(20) + "cells 8;", 1, 140);
        wrong("wind 1;".repeat(20) + ";", 1, 140);
    }

    /** "or the FAULT less 10 (all stays)", by promise 4 "likewise". */
    private static void faultLeavesAll() {
        String much = "weight 9;fine 8;wind 4;layer 0 4;";
        String[] texts = {much + "x", much + "weight 100;", much.repeat(4) + much + "wind 4;".repeat(4)};
        for (int i = 0; i < texts.length; i++) {
            NightSounds x = Check.with("house 0 7;source 0 99 1 1;", "weight 5;fine 1;");
            due("fault " + (i + 1), Check.air(x, texts[i]), i - 9);
            due("airs", x.told(4), 1);
            due("their weights", x.nights(0, 0, 1), 5);
            due("houses", x.told(1), 1);
            due("the tape is empty", x.count(3), 0);
            due("the next has the number", Check.air(x, ""), 1);
            due("and nothing of that text: its weight", x.nights(0, 0, 1), 6);
            due("how fine, 9 by 48", x.saying(0, 0, 0, 0) * 100 + x.saying(0, 0, 0, 1), 316);
            due("its wind and layers", x.ray(1, 0, 0, 0, 2), 1);
        }
    }

    /** Promise 3's "(TIMES, CLICKS, IMAGES gone)" is of a LAND. */
    private static void airTakesNothingFromTheLand() {
        NightSounds x = Check.with("house 0 7;foam 0 1 1;");
        x.does(0);
        x.tell(0, 5);
        x.click(3);
        x.image();
        due("an air", Check.air(x, "wind 4;"), 0);
        due("works", x.count(0), 1);
        due("clicks", x.count(1), 1);
        due("images", x.count(2), 1);
        due("times", x.tell(0, 6), 5);
        due("ear", x.ear(0), 8);
    }
}
