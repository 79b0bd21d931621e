import java.util.Random;

/** The paragraphs PILES and DRAWING, sentence by sentence, at the edges that they name. */
final class TreesEdgesTest {
    private static final Checks C = new Checks();

    public static void main(String[] args) {
        logsAndPiles();
        comingAhead();
        joining();
        places();
        off();
        drawing();
        C.end("TreesEdgesTest");
    }

    // ---- logs and piles

    private static void logsAndPiles() {
        C.sentence("PILES: There are at most 24 logs ever", TreesEdgesTest::atMost24Ever);
        C.sentence("PILES: numbered from 0 in the order in which they came", TreesEdgesTest::numberedAsTheyCame);
        C.sentence("PILES: each with a damp of 0 to 99", TreesEdgesTest::damps);
        C.sentence("PILES: There are at most 4 piles, numbered from 0", TreesEdgesTest::atMost4Piles);
        C.sentence("PILES: each covered or not (at first)", TreesEdgesTest::notCoveredAtFirst);
        C.sentence("PILES: A pile is empty, or a tree of logs: one log is its top", TreesEdgesTest::oneTop);
        C.sentence("PILES: under each log there is at most one on the left, and one on the right", TreesEdgesTest::linksAgree);
        C.sentence("PILES: The depth of the top is 0, that of a log under another one is 1 more than that of this one.",
                TreesEdgesTest::depths);
    }

    private static void atMost24Ever() {
        WoodPiles x = Checks.yard("Opp");
        for (int l = 0; l < 24; l++) {
            C.due("log", x.log(l % 2, 50), l);
        }
        C.badState("log 24", () -> x.log(0, 50));
        x.draw(0);
        C.badState("log 24, one burnt", () -> x.log(0, 50));
        x.take(1);
        C.badState("log 24, one taken out", () -> x.log(1, 50));
        x.nights(9);
        x.nights(9);
        x.nights(9);
        C.due("none is left", x.about(2), 0);
        C.badState("log 24, none left", () -> x.log(0, 50));
        C.due("those that came", x.about(1), 24);
    }

    private static void numberedAsTheyCame() {
        WoodPiles x = Checks.yard("Oppp");
        C.due("the first, in pile 2", x.log(2, 99), 0);
        C.due("a drier one, in pile 0", x.log(0, 0), 1);
        x.take(1);
        C.due("the number of one that was taken out is not used again", x.log(1, 50), 2);
        x.draw(2);
        C.due("nor of one that was burnt", x.log(2, 50), 3);
        x.undo();
        C.due("but of one whose coming was undone", x.log(0, 5), 3);
    }

    private static void damps() {
        WoodPiles x = Checks.yard("Op");
        x.log(0, 0);
        x.log(0, 99);
        C.due("the driest", x.logOf(0, 0), 0);
        C.due("the wettest", x.logOf(1, 0), 99);
        x.wind(30);
        C.due("no drier than 0", x.logOf(0, 0), 0);
        x.rain(30);
        x.rain(30);
        C.due("no wetter than 99", x.logOf(1, 0), 99);
    }

    private static void atMost4Piles() {
        WoodPiles x = new WoodPiles();
        for (int p = 0; p < 4; p++) {
            final int pile = p;
            C.outOfBounds("pile " + p + " is not yet there", () -> x.pileOf(pile, 0));
            C.due("pile()", x.pile(), p);
        }
        C.badState("the fifth", x::pile);
        C.outOfBounds("pile 4", () -> x.pileOf(4, 0));
        C.due("a log in the last one", x.log(3, 1), 0);
    }

    private static void notCoveredAtFirst() {
        WoodPiles x = Checks.yard("Oppc0+c1+");
        x.pile();
        C.due("a new pile beside covered ones", x.pileOf(2, 3), 0);
        x.cover(2, true);
        x.undo();
        x.undo();
        x.pile();
        C.due("the pile that comes again", x.pileOf(2, 3), 0);
    }

    private static void oneTop() {
        WoodPiles x = Checks.yard("Oppl040");
        C.due("the only log is the top", x.pileOf(0, 1), 0);
        C.due("an empty one has none", x.pileOf(1, 1), WoodPiles.NONE);
        x.take(0);
        C.due("empty again", x.pileOf(0, 1), WoodPiles.NONE);
        C.due("no log", x.pileOf(0, 0), 0);
    }

    /** Behind actions by chance each log is either its pile's top, or just once under the log that it names. */
    private static void linksAgree() {
        for (int run = 0; run < 60; run++) {
            WoodPiles x = Checks.yard("Oppp");
            Random random = new Random(run);
            for (int i = 0; i < 40; i++) {
                someAction(x, random);
            }
            for (int l = 0; l < x.about(1); l++) {
                final int log = l;
                if (!Checks.outcome(() -> x.logOf(log, 0)).startsWith("Index")) {
                    C.due("run " + run + ": the places of log " + l, placesOf(x, l), 1);
                }
            }
        }
    }

    private static void someAction(WoodPiles x, Random random) {
        int p = random.nextInt(3);
        switch (random.nextInt(8)) {
            case 0 -> Checks.outcome(() -> x.take(random.nextInt(24)));
            case 1 -> x.draw(p);
            case 2 -> Checks.outcome(() -> x.join(p, random.nextInt(3)));
            case 3 -> x.rain(1 + random.nextInt(30));
            case 4 -> x.mend(p);
            default -> Checks.outcome(() -> x.log(p, random.nextInt(100)));
        }
    }

    private static int placesOf(WoodPiles x, int l) {
        int places = 0;
        for (int p = 0; p < x.about(0); p++) {
            places += x.pileOf(p, 1) == l && x.logOf(l, 1) == p && x.logOf(l, 2) == 0 && x.logOf(l, 3) == -1 ? 1 : 0;
        }
        int upper = x.logOf(l, 3);
        if (upper != -1) {
            boolean sameHome = x.logOf(upper, 1) == x.logOf(l, 1);
            boolean deeper = x.logOf(l, 2) == x.logOf(upper, 2) + 1;
            places += sameHome && deeper && x.logOf(upper, 4) == l ? 1 : 0;
            places += sameHome && deeper && x.logOf(upper, 5) == l ? 1 : 0;
        }
        return places;
    }

    private static void depths() {
        WoodPiles x = Checks.yard("Op");
        for (int l = 0; l < 24; l++) {
            x.log(0, 99 - l);
        }
        for (int l = 0; l < 24; l++) {
            C.due("the depth of " + l, x.logOf(l, 2), 23 - l);
        }
        C.due("the greatest", x.pileOf(0, 2), 23);
        WoodPiles y = Checks.yard("Opl010l020l030");
        C.dueShape(y, 0, "0:10(2:30 1:20)");
        C.due("on the left", y.logOf(2, 2), 1);
        C.due("on the right", y.logOf(1, 2), 1);
    }

    // ---- which log comes ahead

    private static void comingAhead() {
        C.sentence("PILES: A log comes ahead of another one if it is drier", TreesEdgesTest::drier);
        C.sentence("PILES: or as damp as that and has the lower number", TreesEdgesTest::asDamp);
    }

    private static void drier() {
        C.dueShape(Checks.yard("Opl050l049"), 0, "1:49(0:50 -)");
        C.dueShape(Checks.yard("Opl050l051"), 0, "0:50(1:51 -)");
        C.dueShape(Checks.yard("Opl099l000"), 0, "1:0(0:99 -)");
        C.dueShape(Checks.yard("Oppl150l049j10"), 1, "1:49(0:50 -)");
    }

    private static void asDamp() {
        C.dueShape(Checks.yard("Opl050l050"), 0, "0:50(1:50 -)");
        C.dueShape(Checks.yard("Opl000l000"), 0, "0:0(1:0 -)");
        C.dueShape(Checks.yard("Oppl150l050j01"), 0, "0:50(1:50 -)");
        C.dueShape(Checks.yard("Oppl050l150j10"), 1, "0:50(1:50 -)");
        C.dueShape(Checks.yard("Opl099l099l099"), 0, "0:99(2:99 1:99)");
    }

    // ---- joining

    private static void joining() {
        C.sentence("PILES: if one of them is empty, the other one is what comes of it", TreesEdgesTest::oneIsEmpty);
        C.sentence("PILES: Otherwise the one whose top comes ahead of the other top is what comes of it",
                TreesEdgesTest::drierTopStays);
        C.sentence("PILES: what was on the left under its top is on the right then", TreesEdgesTest::leftGoesRight);
        C.sentence("PILES: and what was on the right, joined with the other tree, is on the left", TreesEdgesTest::rightIsJoined);
        C.sentence("PILES: Each time two tops are compared by that is a lift.", TreesEdgesTest::lifts);
        C.sentence("PILES: A log comes into a pile by joining the pile with a tree of this log alone.",
                TreesEdgesTest::comesInByJoining);
    }

    private static void oneIsEmpty() {
        WoodPiles x = Checks.yard("Opppl010l020l030");
        C.due("the second is empty", x.join(0, 1), 0);
        C.dueShape(x, 0, "0:10(2:30 1:20)");
        C.due("the first is empty", x.join(2, 0), 0);
        C.dueShape(x, 2, "0:10(2:30 1:20)");
        C.dueShape(x, 0, "-");
        C.due("both are empty", x.join(0, 1), 0);
        C.dueShape(x, 0, "-");
        C.dueShape(x, 1, "-");
        C.due("lifts", x.about(5), 2);
    }

    private static void drierTopStays() {
        WoodPiles x = Checks.yard("Oppl020l030l110l140");
        C.due("join", x.join(0, 1), 1);
        C.dueShape(x, 0, "2:10(0:20(1:30 -) 3:40)");
        WoodPiles y = Checks.yard("Oppl010l030l120l140");
        C.due("join", y.join(0, 1), 1);
        C.dueShape(y, 0, "0:10(2:20(3:40 -) 1:30)");
    }

    private static void leftGoesRight() {
        WoodPiles x = Checks.yard("Opl010l020");
        C.dueShape(x, 0, "0:10(1:20 -)");
        x.log(0, 30);
        C.dueShape(x, 0, "0:10(2:30 1:20)");
        x.log(0, 5);
        C.dueShape(x, 0, "3:5(0:10(2:30 1:20) -)");
        WoodPiles y = Checks.yard("Opl010l020l030k02");
        C.dueShape(y, 0, "0:10(- 1:20)");
        y.log(0, 40);
        C.dueShape(y, 0, "0:10(1:20(3:40 -) -)");
    }

    private static void rightIsJoined() {
        WoodPiles x = Checks.yard("Opl010l020l030l015");
        C.dueShape(x, 0, "0:10(3:15(1:20 -) 2:30)");
        x.log(0, 25);
        C.dueShape(x, 0, "0:10(4:25(2:30 -) 3:15(1:20 -))");
        x.log(0, 90);
        C.dueShape(x, 0, "0:10(3:15(5:90 1:20) 4:25(2:30 -))");
    }

    private static void lifts() {
        WoodPiles x = Checks.yard("Opp");
        int[] damps = {10, 20, 30, 15, 25, 90, 1};
        int[] due = {0, 1, 1, 2, 2, 2, 1};
        for (int i = 0; i < damps.length; i++) {
            int before = x.about(5);
            x.log(0, damps[i]);
            C.due("the lifts of the log " + i, x.about(5) - before, due[i]);
        }
        C.due("a log comes into an empty pile", x.log(1, 5), 7);
        C.due("lifts", x.about(5), 9);
        C.due("down a side of 11", liftsDownTheRight(11), 11);
    }

    /** A pile whose right side is so long: each top gets a wetter log, which sends what is under it to the right. */
    private static int liftsDownTheRight(int length) {
        WoodPiles x = Checks.yard("Op");
        for (int i = 0; i < length; i++) {
            x.log(0, 80 - i);
            if (i > 0) {
                x.log(0, 81);
            }
        }
        int before = x.about(5);
        x.log(0, 99);
        return x.about(5) - before;
    }

    private static void comesInByJoining() {
        for (int damp : new int[] {0, 9, 10, 11, 19, 20, 21, 30, 99}) {
            WoodPiles x = Checks.yard("Oppl010l020l030l015");
            WoodPiles y = Checks.yard("Oppl010l020l030l015");
            x.log(0, damp);
            y.log(1, damp);
            y.join(0, 1);
            C.due("a log of " + damp, Checks.looks(x), Checks.looks(y));
        }
    }

    // ---- what is left where a log was

    private static void places() {
        C.sentence("PILES: If a log is drawn or taken out, what was under it on both sides is joined: nothing is under it",
                TreesEdgesTest::nothingUnderIt);
        C.sentence("PILES: what was under it on both sides is joined: only the left or the right",
                TreesEdgesTest::oneSideUnderIt);
        C.sentence("PILES: what was under it on both sides is joined: both", TreesEdgesTest::bothSidesUnderIt);
        C.sentence("PILES: and that is where the log was", TreesEdgesTest::whereTheLogWas);
    }

    private static void nothingUnderIt() {
        WoodPiles x = Checks.yard("Opl010l020l030");
        C.due("on the left", x.take(2), 0);
        C.dueShape(x, 0, "0:10(- 1:20)");
        C.due("on the right", x.take(1), 0);
        C.dueShape(x, 0, "0:10");
        C.due("the top", x.draw(0), 0);
        C.dueShape(x, 0, "-");
        C.due("lifts", x.about(5), 2);
    }

    private static void oneSideUnderIt() {
        WoodPiles x = Checks.yard("Opl010l020");
        C.due("draw", x.draw(0), 0);
        C.dueShape(x, 0, "1:20");
        C.due("it is the top", x.logOf(1, 3), -1);
        WoodPiles y = Checks.yard("Opl010l020l030k02");
        C.due("draw with only a right one", y.draw(0), 0);
        C.dueShape(y, 0, "1:20");
        C.due("lifts", y.about(5), 2);
        C.due("it is the top", y.logOf(1, 3), -1);
    }

    private static void bothSidesUnderIt() {
        WoodPiles x = Checks.yard("Opl010l020l030l015l025");
        C.dueShape(x, 0, "0:10(4:25(2:30 -) 3:15(1:20 -))");
        C.due("take the top", x.take(0), 1);
        C.dueShape(x, 0, "3:15(4:25(2:30 -) 1:20)");
        C.due("draw", x.draw(0), 0);
        C.dueShape(x, 0, "1:20(4:25(2:30 -) -)");
        C.due("lifts", x.about(5), 1 + 1 + 2 + 2 + 1 + 1);
    }

    private static void whereTheLogWas() {
        WoodPiles x = Checks.yard("Opl010l020l030l015l025l090");
        C.dueShape(x, 0, "0:10(3:15(5:90 1:20) 4:25(2:30 -))");
        C.due("on the left", x.take(3), 1);
        C.dueShape(x, 0, "0:10(1:20(5:90 -) 4:25(2:30 -))");
        C.due("under 0", x.logOf(1, 3), 0);
        C.due("on the right", x.take(4), 0);
        C.dueShape(x, 0, "0:10(1:20(5:90 -) 2:30)");
        C.due("under 0", x.logOf(2, 3), 0);
        C.due("deeper down", x.take(5), 0);
        C.dueShape(x, 0, "0:10(1:20 2:30)");
    }

    // ---- off

    private static void off() {
        C.sentence("PILES: A log is off if it comes ahead of the log directly under which it lies.", TreesEdgesTest::logsOff);
        C.sentence("PILES: directly", TreesEdgesTest::directly);
        C.sentence("PILES: A pile is off if any of its logs is.", TreesEdgesTest::pilesOff);
    }

    private static void logsOff() {
        WoodPiles x = Checks.yard("Opl010l010l029l005");
        C.dueShape(x, 0, "3:5(0:10(2:29 1:10) -)");
        x.rain(28);
        C.dueShape(x, 0, "3:33(0:38(2:38 1:19) -)");
        C.due("1 is drier; 2 is as damp, with the higher number", x.pileOf(0, 4), 1);
        WoodPiles y = Checks.yard("Opl029l010l010l005");
        C.dueShape(y, 0, "3:5(1:10(2:10 0:29) -)");
        y.rain(28);
        C.dueShape(y, 0, "3:33(1:38(2:19 0:38) -)");
        C.due("0 is as damp, with the lower number", y.pileOf(0, 4), 2);
        WoodPiles z = Checks.yard("Opl030l010l010l005r28");
        C.due("0 is wetter by 1", z.pileOf(0, 4), 1);
    }

    private static void directly() {
        WoodPiles x = Checks.yard("Opl005l006l004");
        C.dueShape(x, 0, "2:4(0:5(1:6 -) -)");
        x.wind(30);
        C.dueShape(x, 0, "2:0(0:0(1:0 -) -)");
        C.due("1 comes ahead of 2, but lies under 0", x.pileOf(0, 4), 1);
        C.due("no top is off", Checks.yard("Opl099w30").pileOf(0, 4), 0);
    }

    private static void pilesOff() {
        WoodPiles x = Checks.yard("Oppl005l006l004l150w30");
        C.due("one log is off", x.pileOf(0, 4), 1);
        C.due("the pile is off", x.pileOf(0, 6), 2);
        C.badState("the pile is off", () -> x.ranked(0, 0, 1));
        C.due("the other pile is not", x.pileOf(1, 6), 0);
        C.due("the other pile is not", x.ranked(1, 0, 1), 3);
        x.take(0);
        C.due("1 is off under 2 then", x.pileOf(0, 6), 2);
        x.take(1);
        C.due("no log is off then", x.pileOf(0, 6), 0);
    }

    // ---- drawing

    private static void drawing() {
        C.sentence("DRAWING: A pile cannot be drawn by the first of these reasons that is so: 1: it is empty",
                TreesEdgesTest::empty);
        C.sentence("DRAWING: 2: it is off", TreesEdgesTest::offAndDrawn);
        C.sentence("DRAWING: Otherwise its top is drawn, and burnt.", TreesEdgesTest::topIsBurnt);
        C.sentence("DRAWING: A log that is burnt gives 100 less its damp as heat, if its damp is at most setting 0",
                TreesEdgesTest::heatAtTheSetting);
        C.sentence("DRAWING: and otherwise smokes", TreesEdgesTest::smokeAboveTheSetting);
        C.sentence("SETTINGS: how damp a log may be that burns, 0 to 99, at first 40.", TreesEdgesTest::firstSetting);
    }

    private static void empty() {
        WoodPiles x = Checks.yard("Opl050");
        C.due("with a log", x.pileOf(0, 6), 0);
        C.due("draw", x.draw(0), 0);
        C.due("empty", x.pileOf(0, 6), 1);
        C.due("draw", x.draw(0), 1);
        C.due("burnt", x.about(3), 1);
    }

    private static void offAndDrawn() {
        WoodPiles x = Checks.yard("Opl005l006l004w30");
        C.due("off", x.pileOf(0, 6), 2);
        C.due("draw", x.draw(0), 2);
        C.due("its logs", x.pileOf(0, 0), 3);
        x.mend(0);
        C.due("not off", x.pileOf(0, 6), 0);
        C.due("draw", x.draw(0), 0);
    }

    private static void topIsBurnt() {
        WoodPiles x = Checks.yard("Oppl020l010l030l105");
        C.due("draw", x.draw(0), 0);
        C.outOfBounds("the top", () -> x.logOf(1, 0));
        C.due("those left in it", x.pileOf(0, 0), 2);
        C.due("those in the other one", x.pileOf(1, 0), 1);
        C.due("burnt", x.about(3), 1);
        C.due("taken out", x.about(4), 0);
    }

    private static int heatOf(int damp, int setting) {
        WoodPiles x = Checks.yard("Op");
        x.log(0, damp);
        x.set(setting);
        x.draw(0);
        return x.about(7) * 1000 + x.about(6);
    }

    private static void heatAtTheSetting() {
        C.due("0 with 0", heatOf(0, 0), 100);
        C.due("40 with 40", heatOf(40, 40), 60);
        C.due("39 with 40", heatOf(39, 40), 61);
        C.due("99 with 99", heatOf(99, 99), 1);
        C.due("0 with 99", heatOf(0, 99), 100);
    }

    private static void smokeAboveTheSetting() {
        C.due("1 with 0", heatOf(1, 0), 1000);
        C.due("41 with 40", heatOf(41, 40), 1000);
        C.due("99 with 98", heatOf(99, 98), 1000);
        C.due("99 with 0", heatOf(99, 0), 1000);
    }

    private static void firstSetting() {
        C.due("a new object", new WoodPiles().about(11), 40);
        C.due("a yard that was loaded", Checks.yard("Op").about(11), 40);
        WoodPiles x = Checks.yard("Oppl040l141d0d1");
        C.due("heat of 40", x.about(6), 60);
        C.due("smoke of 41", x.about(7), 1);
    }
}
