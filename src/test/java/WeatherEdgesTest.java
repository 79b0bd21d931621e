/** Promises 16 to 19 and the paragraphs WIND AND RAIN and NIGHTS, sentence by sentence, at the edges that they name. */
final class WeatherEdgesTest {
    private static final Checks C = new Checks();
    private static final int[] NO_WEATHER = {0, -1, 31, 32, 99, Integer.MIN_VALUE, Integer.MAX_VALUE};

    public static void main(String[] args) {
        promise16();
        promise17();
        promise18();
        promise19();
        manyNights();
        C.end("WeatherEdgesTest");
    }

    /** Logs 0 to 4 at the depths 4 to 0, with damps of 60, 59, 58, 57 and 56. */
    private static WoodPiles chain() {
        return Checks.yard("Opl060l059l058l057l056");
    }

    private static String damps(WoodPiles x, int logs) {
        StringBuilder all = new StringBuilder();
        for (int l = 0; l < logs; l++) {
            all.append(l == 0 ? "" : " ").append(x.logOf(l, 0));
        }
        return all.toString();
    }

    private static String behindWind(WoodPiles x, int w) {
        x.wind(w);
        return damps(x, x.about(1));
    }

    private static String behindRain(WoodPiles x, int w) {
        x.rain(w);
        return damps(x, x.about(1));
    }

    // ---- wind

    private static void promise16() {
        C.sentence("WIND: by w if its depth is 0 or 1", WeatherEdgesTest::windOutside);
        C.sentence("WIND: otherwise by w / 2", WeatherEdgesTest::windInside);
        C.sentence("WIND: each log of a covered pile by w / 4", WeatherEdgesTest::windOnCovered);
        C.sentence("WIND: but none below 0", WeatherEdgesTest::noneBelow0);
        C.sentence("WIND: Nothing is moved by that.", WeatherEdgesTest::windMovesNothing);
        C.sentence("16: w: 1 to 30", WeatherEdgesTest::windsAllowed);
        C.sentence("16: Returns the damp of all logs in piles together then.", WeatherEdgesTest::windReturns);
        C.sentence("16: Throws IllegalArgumentException if w is out of range", WeatherEdgesTest::windRefused);
    }

    private static void windOutside() {
        C.due("w of 2", behindWind(chain(), 2), "59 58 57 55 54");
        C.due("left and right", behindWind(Checks.yard("Opl010l020l030"), 9), "1 11 21");
        C.due("two piles", behindWind(Checks.yard("Oppl060l159"), 30), "30 29");
        WoodPiles x = Checks.yard("Opl060l059l058");
        x.take(1);
        C.due("a log that came up to depth 1", logBehindWind(x, 0, 8), 52);
    }

    private static int logBehindWind(WoodPiles x, int l, int w) {
        x.wind(w);
        return x.logOf(l, 0);
    }

    private static void windInside() {
        C.due("w of 1: 0", behindWind(chain(), 1), "60 59 58 56 55");
        C.due("w of 3: 1", behindWind(chain(), 3), "59 58 57 54 53");
        C.due("w of 4: 2", behindWind(chain(), 4), "58 57 56 53 52");
        C.due("w of 29: 14", behindWind(chain(), 29), "46 45 44 28 27");
        C.due("w of 30: 15", behindWind(chain(), 30), "45 44 43 27 26");
    }

    private static WoodPiles covered(WoodPiles x) {
        x.cover(0, true);
        return x;
    }

    private static void windOnCovered() {
        C.due("w of 3: 0", behindWind(covered(chain()), 3), "60 59 58 57 56");
        C.due("w of 4: 1", behindWind(covered(chain()), 4), "59 58 57 56 55");
        C.due("w of 7: 1", behindWind(covered(chain()), 7), "59 58 57 56 55");
        C.due("w of 8: 2", behindWind(covered(chain()), 8), "58 57 56 55 54");
        C.due("w of 30: 7", behindWind(covered(chain()), 30), "53 52 51 50 49");
        C.due("one covered, one not", behindWind(Checks.yard("Oppl060l160c0+"), 30), "53 30");
        C.due("one not, one covered", behindWind(Checks.yard("Oppl060l160c1+"), 30), "30 53");
        C.due("uncovered again", behindWind(Checks.yard("Opl060c0+c0-"), 30), "30");
    }

    private static void noneBelow0() {
        C.due("w", behindWind(Checks.yard("Oppl030l131"), 30), "0 1");
        C.due("w - 1", behindWind(Checks.yard("Oppl029l100"), 30), "0 0");
        C.due("inside", behindWind(Checks.yard("Opl016l015l014l013l012"), 30), "1 0 0 0 0");
        C.due("covered", behindWind(Checks.yard("Opl008l007l006c0+"), 30), "1 0 0");
    }

    private static void windMovesNothing() {
        WoodPiles x = Checks.yard("Opl005l006l004");
        int lifts = x.about(5);
        x.wind(30);
        C.dueShape(x, 0, "2:0(0:0(1:0 -) -)");
        C.due("two logs are off then, or one", x.pileOf(0, 4), 1);
        C.due("lifts", x.about(5), lifts);
        C.due("the setting", x.about(11), 40);
    }

    private static void windsAllowed() {
        C.due("1", Checks.yard("Opl099").wind(1), 98);
        C.due("30", Checks.yard("Opl099").wind(30), 69);
        for (int w = 1; w <= 30; w++) {
            C.due("wind(" + w + ")", Checks.yard("Oppl099l199c1+").wind(w), 99 - w + 99 - w / 4);
        }
    }

    private static void windReturns() {
        C.due("no pile", new WoodPiles().wind(30), 0);
        C.due("no log", Checks.yard("Opp").wind(1), 0);
        WoodPiles x = Checks.yard("Opppl050l150l299l298l297c1+");
        C.due("all piles", x.wind(4), 46 + 49 + 97 + 94 + 93);
        x.draw(0);
        x.take(2);
        C.due("not those burnt or taken out", x.wind(4), 48 + 90 + 89);
        C.due("the same as about(10)", x.about(10), 48 + 90 + 89);
    }

    private static void windRefused() {
        WoodPiles x = Checks.yard("Opl050");
        for (int w : NO_WEATHER) {
            C.refused("wind(" + w + ")", x, IllegalArgumentException.class, () -> x.wind(w));
            C.badArgument("wind(" + w + ") without piles", () -> new WoodPiles().wind(w));
        }
        C.badState("these are no actions", x::undo);
    }

    // ---- rain

    private static void promise17() {
        C.sentence("RAIN: by w if its depth is 0 or 1", WeatherEdgesTest::rainOutside);
        C.sentence("RAIN: otherwise by w / 3", WeatherEdgesTest::rainInside);
        C.sentence("RAIN: each log of a pile that is not covered becomes wetter", WeatherEdgesTest::rainOnCovered);
        C.sentence("RAIN: but none above 99", WeatherEdgesTest::noneAbove99);
        C.sentence("RAIN: Nothing is moved by that.", WeatherEdgesTest::rainMovesNothing);
        C.sentence("17: w: 1 to 30", WeatherEdgesTest::rainsAllowed);
        C.sentence("17: Returns how many logs are off then, in all piles.", WeatherEdgesTest::rainReturns);
        C.sentence("17: Throws IllegalArgumentException if w is out of range", WeatherEdgesTest::rainRefused);
    }

    private static void rainOutside() {
        C.due("w of 2", behindRain(chain(), 2), "60 59 58 59 58");
        C.due("left and right", behindRain(Checks.yard("Opl010l020l030"), 9), "19 29 39");
        C.due("two piles", behindRain(Checks.yard("Oppl060l159"), 30), "90 89");
    }

    private static void rainInside() {
        C.due("w of 1: 0", behindRain(chain(), 1), "60 59 58 58 57");
        C.due("w of 3: 1", behindRain(chain(), 3), "61 60 59 60 59");
        C.due("w of 5: 1", behindRain(chain(), 5), "61 60 59 62 61");
        C.due("w of 6: 2", behindRain(chain(), 6), "62 61 60 63 62");
        C.due("w of 29: 9", behindRain(chain(), 29), "69 68 67 86 85");
        C.due("w of 30: 10", behindRain(chain(), 30), "70 69 68 87 86");
    }

    private static void rainOnCovered() {
        C.due("covered", behindRain(covered(chain()), 30), "60 59 58 57 56");
        C.due("one covered, one not", behindRain(Checks.yard("Oppl060l160c0+"), 30), "60 90");
        C.due("one not, one covered", behindRain(Checks.yard("Oppl060l160c1+"), 30), "90 60");
        C.due("uncovered again", behindRain(Checks.yard("Opl060c0+c0-"), 30), "90");
    }

    private static void noneAbove99() {
        C.due("99 - w", behindRain(Checks.yard("Oppl069l168"), 30), "99 98");
        C.due("99 - w + 1", behindRain(Checks.yard("Oppl070l199"), 30), "99 99");
        C.due("inside", behindRain(Checks.yard("Opl090l089l088l087l086"), 30), "99 99 98 99 99");
    }

    private static void rainMovesNothing() {
        WoodPiles x = chain();
        int lifts = x.about(5);
        x.rain(30);
        C.dueShape(x, 0, "4:86(3:87(2:68(1:69(0:70 -) -) -) -)");
        C.due("lifts", x.about(5), lifts);
        C.due("off", x.pileOf(0, 4), 1);
    }

    private static void rainsAllowed() {
        for (int w = 1; w <= 30; w++) {
            WoodPiles x = Checks.yard("Oppl050l049l048l140c1+");
            x.rain(w);
            C.due("rain(" + w + ")", damps(x, 4), (50 + w / 3) + " " + (49 + w) + " " + (48 + w) + " 40");
        }
    }

    private static void rainReturns() {
        C.due("no pile", new WoodPiles().rain(30), 0);
        C.due("no log", Checks.yard("Opp").rain(1), 0);
        C.due("none is off", Checks.yard("Oppl050l150").rain(30), 0);
        C.due("one in each of two piles", Checks.yard("Oppl060l059l058l160l159l158").rain(30), 2);
        WoodPiles x = Checks.yard("Oppl005l006l004l160l159l158w30c0+");
        C.due("one in a covered pile, one in the other", x.rain(30), 2);
        C.due("pile 0", x.pileOf(0, 4), 1);
        C.due("pile 1", x.pileOf(1, 4), 1);
        C.due("as damp, with the lower number, and drier", Checks.yard("Opl029l010l010l005").rain(28), 2);
        C.due("as damp, with the higher number, and drier", Checks.yard("Opl010l010l029l005").rain(28), 1);
        // a log that was off is not counted when it is so no more: 0 and 3 become 99 both
        WoodPiles y = Checks.yard("Opl056l057l058l059");
        C.due("3 is off, under 1", y.rain(30), 1);
        y.take(1);
        C.due("3 is off, under 0", y.pileOf(0, 4), 1);
        C.due("all are 99", y.rain(30), 0);
    }

    private static void rainRefused() {
        WoodPiles x = Checks.yard("Opl050");
        for (int w : NO_WEATHER) {
            C.refused("rain(" + w + ")", x, IllegalArgumentException.class, () -> x.rain(w));
            C.badArgument("rain(" + w + ") without piles", () -> new WoodPiles().rain(w));
        }
        C.badState("these are no actions", x::undo);
    }

    // ---- mend

    private static void promise18() {
        C.sentence("MEND: all its logs are taken out, and come into it again, one by one", WeatherEdgesTest::comeAgain);
        C.sentence("MEND: by rising numbers", WeatherEdgesTest::risingNumbers);
        C.sentence("18: Mends a pile (also one that is not off).", WeatherEdgesTest::notOffIsMended);
        C.sentence("18: Returns the lifts that it takes.", WeatherEdgesTest::liftsOfMend);
        C.sentence("18: Throws IndexOutOfBoundsException if there is no such pile", WeatherEdgesTest::mendNoPile);
    }

    private static void comeAgain() {
        WoodPiles x = Checks.yard("Oppl010l010l029l005r28l199c0+");
        C.due("off", x.pileOf(0, 4), 1);
        x.mend(0);
        // 0:38; 1:19 over it; 2:38 under 1, 0 on the right; 3:33 under 1, joined with 0, 2 on the right
        C.dueShape(x, 0, "1:19(3:33(0:38 -) 2:38)");
        C.due("off", x.pileOf(0, 4), 0);
        C.due("the cover", x.pileOf(0, 3), 1);
        C.dueShape(x, 1, "4:99");
        C.due("came", x.about(1), 5);
        C.due("burnt, heat", x.about(3) + x.about(6), 0);
    }

    private static void risingNumbers() {
        WoodPiles x = Checks.yard("Opppl130l020l010l140j01");
        String before = Checks.shape(x, 0);
        C.due("before", before, "2:10(0:30(3:40 -) 1:20)");
        x.mend(0);
        // 0:30; 1:20(0 -); 2:10(1(0 -) -); 3 under 2, 1 on the right
        C.dueShape(x, 0, "2:10(3:40 1:20(0:30 -))");
    }

    private static void notOffIsMended() {
        WoodPiles x = Checks.yard("Opl010l020l030l015");
        C.dueShape(x, 0, "0:10(3:15(1:20 -) 2:30)");
        C.due("the same comes of it", x.mend(0), 4);
        C.dueShape(x, 0, "0:10(3:15(1:20 -) 2:30)");
        x.take(1);
        C.dueShape(x, 0, "0:10(3:15 2:30)");
        C.due("another one comes of it", x.mend(0), 2);
        C.dueShape(x, 0, "0:10(3:15 2:30)");
    }

    private static void liftsOfMend() {
        C.due("an empty pile", Checks.yard("Op").mend(0), 0);
        C.due("one log", Checks.yard("Opl099").mend(0), 0);
        C.due("two logs", Checks.yard("Opl099l098").mend(0), 1);
        WoodPiles x = Checks.yard("Opl010l010l029l005r28");
        int before = x.about(5);
        C.due("four logs", x.mend(0), 4);
        C.due("the lifts so far", x.about(5), before + 4);
        WoodPiles y = Checks.yard("Op");
        for (int l = 0; l < 24; l++) {
            y.log(0, 99 - l);
        }
        C.due("24 logs, each drier than those before", y.mend(0), 23);
    }

    private static void mendNoPile() {
        WoodPiles x = Checks.yard("Oppl040");
        for (int p : new int[] {2, 3, 4, -1, Integer.MIN_VALUE, Integer.MAX_VALUE}) {
            C.refused("mend(" + p + ")", x, IndexOutOfBoundsException.class, () -> x.mend(p));
        }
        C.badState("these are no actions", x::undo);
        C.outOfBounds("without piles", () -> new WoodPiles().mend(0));
    }

    // ---- nights

    private static void promise19() {
        C.sentence("NIGHTS: of the piles that can be drawn", WeatherEdgesTest::onlyThoseThatCanBeDrawn);
        C.sentence("NIGHTS: the one with the driest top is drawn", WeatherEdgesTest::driestTop);
        C.sentence("NIGHTS: of several whose tops are as damp the lowest pile", WeatherEdgesTest::lowestPile);
        C.sentence("NIGHTS: if none can be drawn, the night is cold", WeatherEdgesTest::cold);
        C.sentence("19: n: 1 to 9", WeatherEdgesTest::oneToNine);
        C.sentence("19: Throws IllegalArgumentException if n is out of range", WeatherEdgesTest::nightsRefused);
    }

    private static void onlyThoseThatCanBeDrawn() {
        WoodPiles x = Checks.yard("Opppl105l106l104w30l230");
        C.due("pile 1 is off", x.pileOf(1, 6), 2);
        C.due("pile 0 is empty, pile 2 is drawn", x.nights(1), 70);
        C.due("those of pile 1", x.pileOf(1, 0), 3);
        C.due("none is left", x.nights(1), 0);
        C.due("cold", x.about(8), 1);
        C.due("refused", x.about(9), 0);
        x.cover(1, true);
        x.mend(1);
        C.due("covered and mended, it is drawn", x.nights(1), 100);
    }

    private static void driestTop() {
        for (int p = 0; p < 4; p++) {
            WoodPiles x = Checks.yard("Oppppl050l150l250l350");
            x.log(p, 49);
            x.nights(1);
            C.outOfBounds("the driest, in pile " + p, () -> x.logOf(4, 0));
            C.due("those left", x.about(2), 4);
        }
        WoodPiles y = Checks.yard("Oppl050l149");
        y.nights(1);
        C.due("one above the setting is drawn too", y.pileOf(1, 0), 0);
        C.due("it smokes", y.about(7), 1);
    }

    private static void lowestPile() {
        WoodPiles x = Checks.yard("Oppppl350l250l150l050");
        for (int p = 0; p < 4; p++) {
            C.due("before the night " + p, x.pileOf(p, 0), 1);
            x.nights(1);
            C.due("behind the night " + p, x.pileOf(p, 0), 0);
        }
    }

    private static void cold() {
        WoodPiles x = Checks.yard("Oppl005l006l004w30");
        C.due("off and empty", x.nights(3), 0);
        C.due("cold", x.about(8), 3);
        C.due("lifts", x.about(5), 2);
        C.due("without piles", coldOf(new WoodPiles()), 1);
        C.due("with empty ones", coldOf(Checks.yard("Opppp")), 1);
        C.due("with a log", coldOf(Checks.yard("Opl099")), 0);
    }

    private static int coldOf(WoodPiles x) {
        x.nights(1);
        return x.about(8);
    }

    private static void oneToNine() {
        for (int n = 1; n <= 9; n++) {
            WoodPiles x = Checks.yard("Op" + "l000".repeat(10));
            C.due("the heat of " + n, x.nights(n), 100 * n);
            C.due("left behind " + n, x.about(2), 10 - n);
        }
    }

    private static void nightsRefused() {
        WoodPiles x = Checks.yard("Opl050");
        for (int n : new int[] {0, -1, 10, 11, Integer.MIN_VALUE, Integer.MAX_VALUE}) {
            C.refused("nights(" + n + ")", x, IllegalArgumentException.class, () -> x.nights(n));
        }
        C.badState("these are no actions", x::undo);
    }

    private static void manyNights() {
        C.sentence("19: Lets nights go by.", WeatherEdgesTest::oneBehindTheOther);
        C.sentence("19: Returns the heat of these nights.", WeatherEdgesTest::heatOfTheseNights);
    }

    private static void oneBehindTheOther() {
        WoodPiles x = Checks.yard("Oppl010l012l111l113l199");
        C.due("10, 11, 12", x.nights(3), 90 + 89 + 88);
        C.due("pile 0", x.pileOf(0, 0), 0);
        C.dueShape(x, 1, "3:13(4:99 -)");
        C.due("13, 99, and 7 cold ones", x.nights(9), 87);
        C.due("cold", x.about(8), 7);
        C.due("burnt", x.about(3), 5);
        C.due("nine in one call are one action", x.undo(), 1);
        C.due("cold", x.about(8), 0);
        C.due("all that burnt in it are back", x.about(2), 2);
    }

    private static void heatOfTheseNights() {
        WoodPiles x = Checks.yard("Opl000l040l041");
        C.due("at damp 0", x.nights(1), 100);
        C.due("at the setting", x.nights(1), 60);
        C.due("smoke gives none", x.nights(1), 0);
        C.due("nor does a cold night", x.nights(1), 0);
        C.due("the heat so far", x.about(6), 160);
    }
}
