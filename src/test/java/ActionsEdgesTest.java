/** Promises 10 to 15, sentence by sentence, at the edges that they name. */
final class ActionsEdgesTest {
    private static final Checks C = new Checks();
    private static final int[] FAR = {-1, 4, 24, Integer.MIN_VALUE, Integer.MAX_VALUE};

    public static void main(String[] args) {
        promise10();
        promise11();
        promise12();
        promise13();
        promise14();
        promise15();
        C.end("ActionsEdgesTest");
    }

    // ---- pile

    private static void promise10() {
        C.sentence("10: Adds an empty pile.", ActionsEdgesTest::emptyPile);
        C.sentence("10: Returns its number.", ActionsEdgesTest::numberOfPile);
        C.sentence("10: Throws IllegalStateException if there are 4", ActionsEdgesTest::fifthPile);
    }

    private static void emptyPile() {
        WoodPiles x = Checks.yard("Opl040c0+");
        x.pile();
        C.due("piles", x.about(0), 2);
        C.due("its logs", x.pileOf(1, 0), 0);
        C.due("its top", x.pileOf(1, 1), -1);
        C.due("its cover", x.pileOf(1, 3), 0);
        C.due("the other pile", x.pileOf(0, 0) * 10 + x.pileOf(0, 3), 11);
        C.due("lifts", x.about(5), 0);
    }

    private static void numberOfPile() {
        WoodPiles x = new WoodPiles();
        C.due("the first", x.pile(), 0);
        C.due("the second", x.pile(), 1);
        x.join(0, 1);
        C.due("the third, behind a join", x.pile(), 2);
        x.undo();
        C.due("the third again", x.pile(), 2);
        C.due("the fourth", x.pile(), 3);
    }

    private static void fifthPile() {
        WoodPiles x = Checks.yard("Opppp");
        C.refused("the fifth", x, IllegalStateException.class, x::pile);
        C.badState("it is no action", x::undo);
        WoodPiles y = Checks.yard("Oppp");
        C.due("the fourth", y.pile(), 3);
        y.join(0, 3);
        C.refused("the fifth, one emptied", y, IllegalStateException.class, y::pile);
    }

    // ---- log

    private static void promise11() {
        C.sentence("11: A log comes into a pile.", ActionsEdgesTest::logComesIn);
        C.sentence("11: damp: 0 to 99", ActionsEdgesTest::dampsOfLogs);
        C.sentence("11: Returns its number.", ActionsEdgesTest::numberOfLog);
        C.sentence("11: Throws IndexOutOfBoundsException if there is no such pile", ActionsEdgesTest::logInNoPile);
        C.sentence("11: Throws IllegalArgumentException if damp is out of range", ActionsEdgesTest::logTooDamp);
        C.sentence("11: Throws IllegalStateException if 24 logs came", ActionsEdgesTest::log25);
        C.sentence("11: the one that its description names first is thrown", ActionsEdgesTest::orderOfLog);
    }

    private static void logComesIn() {
        WoodPiles x = Checks.yard("Opppp");
        x.log(3, 40);
        C.due("its pile", x.logOf(0, 1), 3);
        C.due("its damp", x.logOf(0, 0), 40);
        C.dueShape(x, 3, "0:40");
        C.due("the other piles", x.pileOf(0, 0) + x.pileOf(1, 0) + x.pileOf(2, 0), 0);
        WoodPiles y = Checks.yard("Opl005l006l004w30c0+");
        C.due("into one that is off, and covered", y.log(0, 0), 3);
        C.dueShape(y, 0, "2:0(3:0 0:0(1:0 -))");
        C.due("the cover", y.pileOf(0, 3), 1);
    }

    private static void dampsOfLogs() {
        WoodPiles x = Checks.yard("Op");
        C.due("0", x.log(0, 0), 0);
        C.due("99", x.log(0, 99), 1);
        C.due("damp of the first", x.logOf(0, 0), 0);
        C.due("damp of the second", x.logOf(1, 0), 99);
    }

    private static void numberOfLog() {
        WoodPiles x = Checks.yard("Opp");
        for (int l = 0; l < 24; l++) {
            C.due("log", x.log(l % 2, 90 - l), l);
            if (l % 3 == 0) {
                x.draw(l % 2);
            }
        }
    }

    private static void logInNoPile() {
        WoodPiles x = Checks.yard("Opp");
        C.due("pile 1", x.log(1, 5), 0);
        C.outOfBounds("pile 2", () -> x.log(2, 5));
        for (int p : FAR) {
            C.refused("pile " + p, x, IndexOutOfBoundsException.class, () -> x.log(p, 5));
        }
        C.due("no number is lost", x.log(1, 5), 1);
    }

    private static void logTooDamp() {
        WoodPiles x = Checks.yard("Op");
        for (int damp : new int[] {-1, 100, 101, Integer.MIN_VALUE, Integer.MAX_VALUE}) {
            C.refused("damp " + damp, x, IllegalArgumentException.class, () -> x.log(0, damp));
        }
        C.badState("these are no actions", x::undo);
    }

    private static void log25() {
        WoodPiles x = Checks.yard("Opp" + "l099".repeat(23));
        C.due("the last one", x.log(1, 0), 23);
        C.refused("log 25", x, IllegalStateException.class, () -> x.log(0, 0));
        x.draw(1);
        x.take(0);
        C.refused("log 25, with two gone", x, IllegalStateException.class, () -> x.log(1, 0));
        x.undo();
        x.undo();
        x.undo();
        C.due("the last one again", x.log(0, 7), 23);
    }

    private static void orderOfLog() {
        WoodPiles x = Checks.yard("Op" + "l099".repeat(24));
        C.outOfBounds("no pile, too damp, full", () -> x.log(1, 100));
        C.outOfBounds("no pile, full", () -> x.log(-1, 50));
        C.badArgument("too damp, full", () -> x.log(0, 100));
        C.badArgument("too dry, full", () -> x.log(0, -1));
        C.badState("full", () -> x.log(0, 99));
    }

    // ---- draw

    private static void promise12() {
        C.sentence("12: Draws a pile, if it can be drawn.", ActionsEdgesTest::drawn);
        C.sentence("12: Returns 0 if its top is burnt, otherwise the reason why not.", ActionsEdgesTest::reasons);
        C.sentence("12: a pile that cannot be drawn is left as it is", ActionsEdgesTest::notDrawn);
        C.sentence("12: Throws IndexOutOfBoundsException if there is no such pile", ActionsEdgesTest::drawNoPile);
    }

    private static void drawn() {
        WoodPiles x = Checks.yard("Oppl040l041l103c0+");
        C.due("draw", x.draw(0), 0);
        C.dueShape(x, 0, "1:41");
        C.dueShape(x, 1, "2:3");
        C.due("the cover", x.pileOf(0, 3), 1);
        C.due("the last log", x.draw(0), 0);
        C.dueShape(x, 0, "-");
        C.due("the cover of the empty one", x.pileOf(0, 3), 1);
        C.due("the other pile's", x.draw(1), 0);
        C.due("heat", x.about(6), 60 + 97);
        C.due("24 draws", drawsOf24(), 24);
    }

    private static int drawsOf24() {
        WoodPiles x = Checks.yard("Op" + "l050l010l099".repeat(8));
        int draws = 0;
        for (int i = 0; i < 26; i++) {
            draws += x.draw(0) == 0 ? 1 : 0;
        }
        return draws;
    }

    private static void reasons() {
        WoodPiles x = Checks.yard("Oppl005l006l004w30");
        C.due("off", x.draw(0), 2);
        C.due("empty", x.draw(1), 1);
        x.take(0);
        x.take(1);
        C.due("one log is left", x.draw(0), 0);
        C.due("none is left", x.draw(0), 1);
        x.log(0, 99);
        C.due("one that smokes is burnt", x.draw(0), 0);
    }

    private static void notDrawn() {
        WoodPiles x = Checks.yard("Oppl005l006l004w30");
        String before = Checks.shape(x, 0);
        x.draw(0);
        x.draw(1);
        C.dueShape(x, 0, before);
        C.due("lifts", x.about(5), 2);
        C.due("burnt", x.about(3), 0);
        C.due("heat and smoke", x.about(6) + x.about(7), 0);
        C.due("refused", x.about(9), 2);
    }

    private static void drawNoPile() {
        WoodPiles x = Checks.yard("Oppl040");
        for (int p : FAR) {
            C.refused("pile " + p, x, IndexOutOfBoundsException.class, () -> x.draw(p));
        }
        C.outOfBounds("pile 2", () -> x.draw(2));
        C.badState("these are no actions", x::undo);
        C.due("pile 1", x.draw(1), 1);
    }

    // ---- take

    private static void promise13() {
        C.sentence("13: Takes a log out of its pile, wherever it lies", ActionsEdgesTest::takenWhereverItLies);
        C.sentence("13: it is not burnt", ActionsEdgesTest::takenNotBurnt);
        C.sentence("13: Returns the lifts that it takes.", ActionsEdgesTest::liftsOfTake);
        C.sentence("13: Throws IndexOutOfBoundsException if there is no such log", ActionsEdgesTest::takeNoLog);
    }

    private static void takenWhereverItLies() {
        String text = "Oppl010l020l030l015l025l090l199";
        // without 0: 3 and 4 are compared, then 1, on the right of 3, and 4; and 5 goes to the right
        String[] due = {"3:15(1:20(4:25(2:30 -) -) 5:90)", "0:10(3:15(5:90 -) 4:25(2:30 -))", "0:10(3:15(5:90 1:20) 4:25)",
            "0:10(1:20(5:90 -) 4:25(2:30 -))", "0:10(3:15(5:90 1:20) 2:30)", "0:10(3:15(- 1:20) 4:25(2:30 -))"};
        C.dueShape(Checks.yard(text), 0, "0:10(3:15(5:90 1:20) 4:25(2:30 -))");
        for (int l = 0; l < due.length; l++) {
            WoodPiles x = Checks.yard(text);
            x.take(l);
            C.due("without " + l, Checks.shape(x, 0), due[l]);
            C.dueShape(x, 1, "6:99");
        }
        WoodPiles y = Checks.yard("Oppl010l199k01c0+k00");
        C.due("the last one, of a covered pile", y.pileOf(0, 0), 0);
        C.due("the cover", y.pileOf(0, 3), 1);
        C.due("the last one of pile 1", y.pileOf(1, 0), 0);
    }

    private static void takenNotBurnt() {
        WoodPiles x = Checks.yard("Opl000l099");
        x.take(0);
        x.take(1);
        C.due("burnt", x.about(3), 0);
        C.due("heat", x.about(6), 0);
        C.due("smoke", x.about(7), 0);
        C.due("taken out", x.about(4), 2);
        C.due("came", x.about(1), 2);
    }

    private static void liftsOfTake() {
        String text = "Opl010l020l030l015l025l090";
        int[] due = {2, 0, 0, 1, 0, 0};
        for (int l = 0; l < due.length; l++) {
            WoodPiles x = Checks.yard(text);
            int before = x.about(5);
            C.due("take(" + l + ")", x.take(l), due[l]);
            C.due("the lifts so far", x.about(5), before + due[l]);
        }
        C.due("the only log", Checks.yard("Opl040").take(0), 0);
        C.due("from one that is off", Checks.yard("Opl010l010l029l005r28").take(0), 1);
    }

    private static void takeNoLog() {
        WoodPiles x = Checks.yard("Oppl040l041l105");
        for (int l : FAR) {
            C.refused("log " + l, x, IndexOutOfBoundsException.class, () -> x.take(l));
        }
        C.outOfBounds("log 3, which did not come yet", () -> x.take(3));
        x.take(1);
        C.refused("log 1, taken out", x, IndexOutOfBoundsException.class, () -> x.take(1));
        x.draw(0);
        C.refused("log 0, burnt", x, IndexOutOfBoundsException.class, () -> x.take(0));
        x.nights(1);
        C.refused("log 2, burnt in a night", x, IndexOutOfBoundsException.class, () -> x.take(2));
        x.undo();
        C.due("log 2 is back", x.take(2), 0);
        WoodPiles y = Checks.yard("Op" + "l050".repeat(24));
        C.due("log 23", y.take(23), 0);
        C.outOfBounds("log 24", () -> y.take(24));
    }

    // ---- join

    private static void promise14() {
        C.sentence("14: Joins two piles: the first one is what comes of both", ActionsEdgesTest::firstHasBoth);
        C.sentence("14: the other one is empty then", ActionsEdgesTest::otherIsEmpty);
        C.sentence("14: Returns the lifts that it takes.", ActionsEdgesTest::liftsOfJoin);
        C.sentence("14: Throws IndexOutOfBoundsException if there is no such pile", ActionsEdgesTest::joinNoPile);
        C.sentence("14: Throws IllegalArgumentException if both are the same", ActionsEdgesTest::joinSamePile);
        C.sentence("14: the one that its description names first is thrown", ActionsEdgesTest::orderOfJoin);
    }

    private static void firstHasBoth() {
        WoodPiles x = Checks.yard("Opppl010l030l120l140l299");
        x.join(0, 1);
        C.dueShape(x, 0, "0:10(2:20(3:40 -) 1:30)");
        C.dueShape(x, 2, "4:99");
        WoodPiles y = Checks.yard("Opppl010l030l120l140l299");
        y.join(1, 0);
        C.dueShape(y, 1, "0:10(2:20(3:40 -) 1:30)");
        WoodPiles z = Checks.yard("Oppl005l006l004w30l107j01");
        C.due("one that is off", z.pileOf(0, 4), 1);
        C.dueShape(z, 0, "2:0(3:7 0:0(1:0 -))");
    }

    private static void otherIsEmpty() {
        WoodPiles x = Checks.yard("Oppl010l120c1+");
        x.join(0, 1);
        C.dueShape(x, 1, "-");
        C.due("its logs", x.pileOf(1, 0), 0);
        C.due("its cover stays", x.pileOf(1, 3), 1);
        C.due("the first one is not covered by that", x.pileOf(0, 3), 0);
        C.due("its number stays", x.about(0), 2);
        C.due("a log comes into it", x.log(1, 7), 2);
        C.dueShape(x, 1, "2:7");
        x.join(1, 0);
        C.dueShape(x, 0, "-");
        C.due("all are in pile 1", x.pileOf(1, 0), 3);
    }

    private static void liftsOfJoin() {
        C.due("both empty", Checks.yard("Opp").join(0, 1), 0);
        C.due("the first empty", Checks.yard("Oppl110l111").join(0, 1), 0);
        C.due("the other empty", Checks.yard("Oppl010l011").join(0, 1), 0);
        C.due("one log each", Checks.yard("Oppl010l111").join(0, 1), 1);
        WoodPiles x = Checks.yard("Oppl010l030l020l115l135l125");
        int before = x.about(5);
        // 0 and 3; then 2, on the right of 0, and 3: 3 is ahead; then 5, on its right, and 2; nothing is on the right of 2
        C.dueShape(x, 0, "0:10(2:20 1:30)");
        C.dueShape(x, 1, "3:15(5:25 4:35)");
        C.due("three logs each", x.join(0, 1), 3);
        C.due("the lifts so far", x.about(5), before + 3);
        C.dueShape(x, 0, "0:10(3:15(1:30(4:35 -) 5:25) 2:20)");
    }

    private static void joinNoPile() {
        WoodPiles x = Checks.yard("Oppl040l141");
        for (int far : FAR) {
            C.refused("the first is " + far, x, IndexOutOfBoundsException.class, () -> x.join(far, 1));
            C.refused("the other is " + far, x, IndexOutOfBoundsException.class, () -> x.join(0, far));
        }
        C.outOfBounds("the first is 2", () -> x.join(2, 0));
        C.outOfBounds("the other is 2", () -> x.join(0, 2));
        C.badState("these are no actions", x::undo);
    }

    private static void joinSamePile() {
        WoodPiles x = Checks.yard("Oppppl040l041");
        for (int p = 0; p < 4; p++) {
            final int same = p;
            C.refused("join(" + p + ", " + p + ")", x, IllegalArgumentException.class, () -> x.join(same, same));
        }
        C.badState("these are no actions", x::undo);
    }

    private static void orderOfJoin() {
        WoodPiles x = Checks.yard("Opp");
        for (int p : new int[] {2, 3, 4, -1, Integer.MAX_VALUE}) {
            C.outOfBounds("join(" + p + ", " + p + ")", () -> x.join(p, p));
        }
    }

    // ---- cover

    private static void promise15() {
        C.sentence("15: Covers a pile, or uncovers it.", ActionsEdgesTest::coversOne);
        C.sentence("15: Returns 1 if it was covered, otherwise 0.", ActionsEdgesTest::wasCovered);
        C.sentence("15: Throws IndexOutOfBoundsException if there is no such pile", ActionsEdgesTest::coverNoPile);
    }

    private static void coversOne() {
        WoodPiles x = Checks.yard("Oppppl040");
        for (int p = 0; p < 4; p++) {
            x.cover(p, true);
            for (int q = 0; q < 4; q++) {
                C.due("pile " + q, x.pileOf(q, 3), q == p ? 1 : 0);
            }
            x.cover(p, false);
            C.due("uncovered", x.pileOf(p, 3), 0);
        }
        C.dueShape(x, 0, "0:40");
    }

    private static void wasCovered() {
        WoodPiles x = Checks.yard("Opp");
        C.due("uncover one that is not", x.cover(1, false), 0);
        C.due("cover", x.cover(1, true), 0);
        C.due("cover again", x.cover(1, true), 1);
        C.due("it is covered still", x.pileOf(1, 3), 1);
        C.due("uncover", x.cover(1, false), 1);
        C.due("uncover again", x.cover(1, false), 0);
        C.due("the other one", x.cover(0, true), 0);
    }

    private static void coverNoPile() {
        WoodPiles x = Checks.yard("Oppc1+");
        for (int p : FAR) {
            C.refused("cover(" + p + ", true)", x, IndexOutOfBoundsException.class, () -> x.cover(p, true));
            C.refused("cover(" + p + ", false)", x, IndexOutOfBoundsException.class, () -> x.cover(p, false));
        }
        C.outOfBounds("pile 2", () -> x.cover(2, true));
        C.badState("these are no actions", x::undo);
        x.pile();
        C.due("pile 2 is not covered by a refused call", x.pileOf(2, 3), 0);
    }
}
