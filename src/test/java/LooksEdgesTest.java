/** Promises 6 to 9, sentence by sentence, at the edges that they name. */
final class LooksEdgesTest {
    private static final Checks C = new Checks();
    private static final int[] FAR = {-1, Integer.MIN_VALUE, Integer.MAX_VALUE};

    public static void main(String[] args) {
        promise6();
        promise7();
        promise7Refusals();
        promise8();
        promise8Refusals();
        promise9();
        promise9Refusals();
        C.end("LooksEdgesTest");
    }

    /** A pile of 24 logs, each under the one that came behind it. */
    private static WoodPiles chainOf24() {
        WoodPiles x = Checks.yard("Op");
        for (int l = 0; l < 24; l++) {
            x.log(0, 99 - l);
        }
        return x;
    }

    // ---- about

    private static void promise6() {
        C.sentence("6: 0: the piles", LooksEdgesTest::piles);
        C.sentence("6: 1: the logs that came so far", LooksEdgesTest::came);
        C.sentence("6: 2: those that lie in piles", LooksEdgesTest::inPiles);
        C.sentence("6: 3: those burnt so far", LooksEdgesTest::burnt);
        C.sentence("6: 4: those taken out so far", LooksEdgesTest::takenOut);
        C.sentence("6: 5: the lifts so far", LooksEdgesTest::lifts);
        C.sentence("6: 6: the heat so far", LooksEdgesTest::heat);
        C.sentence("6: 7: the logs that smoked so far", LooksEdgesTest::smoked);
        C.sentence("6: 8: the cold nights so far", LooksEdgesTest::coldNights);
        C.sentence("6: 9: how often draw() was refused so far", LooksEdgesTest::refused);
        C.sentence("6: 10: the damp of all logs in piles together", LooksEdgesTest::dampOfAll);
        C.sentence("6: 11: setting 0", LooksEdgesTest::setting);
        C.sentence("6: Throws IllegalArgumentException if what is not 0 to 11", LooksEdgesTest::aboutRefusals);
    }

    private static void piles() {
        WoodPiles x = new WoodPiles();
        for (int piles = 0; piles < 4; piles++) {
            C.due("piles", x.about(0), piles);
            x.pile();
        }
        C.due("piles", x.about(0), 4);
        Checks.outcome(x::pile);
        C.due("piles, one refused", x.about(0), 4);
        x.join(0, 3);
        C.due("piles, two joined", x.about(0), 4);
    }

    private static void came() {
        WoodPiles x = chainOf24();
        C.due("24", x.about(1), 24);
        Checks.outcome(() -> x.log(0, 0));
        C.due("one refused", x.about(1), 24);
        x.draw(0);
        x.take(0);
        x.mend(0);
        C.due("burnt, taken out, mended", x.about(1), 24);
        C.due("none", Checks.yard("Op").about(1), 0);
    }

    private static void inPiles() {
        WoodPiles x = chainOf24();
        C.due("24", x.about(2), 24);
        x.draw(0);
        C.due("one burnt", x.about(2), 23);
        x.take(0);
        C.due("one taken out", x.about(2), 22);
        x.mend(0);
        C.due("mended", x.about(2), 22);
        x.nights(9);
        C.due("nine burnt", x.about(2), 13);
        C.due("in two piles", Checks.yard("Oppl040l140l141").about(2), 3);
    }

    private static void burnt() {
        WoodPiles x = Checks.yard("Opl040l041l010l020");
        x.draw(0);
        C.due("by draw()", x.about(3), 1);
        x.nights(1);
        C.due("in a night", x.about(3), 2);
        x.take(1);
        C.due("not one taken out", x.about(3), 2);
        x.draw(0);
        x.draw(0);
        C.due("not in a draw that is refused", x.about(3), 3);
        x.nights(2);
        C.due("not in cold nights", x.about(3), 3);
        WoodPiles y = Checks.yard("Opl099d0");
        C.due("one that smokes", y.about(3), 1);
    }

    private static void takenOut() {
        WoodPiles x = Checks.yard("Opl040l041l010");
        x.take(1);
        C.due("one", x.about(4), 1);
        Checks.outcome(() -> x.take(1));
        C.due("one that was taken out already", x.about(4), 1);
        x.mend(0);
        C.due("not those that are mended", x.about(4), 1);
        x.draw(0);
        C.due("not those burnt", x.about(4), 1);
        x.take(0);
        C.due("two", x.about(4), 2);
    }

    private static void lifts() {
        WoodPiles x = Checks.yard("Oppl030l120l125");
        C.due("of logs", x.about(5), 1);
        x.draw(0);
        C.due("a draw of the only log", x.about(5), 1);
        x.log(1, 40);
        C.due("a log", x.about(5), 2);
        x.take(1);
        C.due("a log taken out", x.about(5), 3);
        x.log(1, 35);
        x.mend(1);
        C.due("a log, and a pile that is mended", x.about(5), 3 + 1 + 2);
        x.log(0, 50);
        C.due("a log in an empty pile", x.about(5), 6);
        x.join(0, 1);
        C.due("a join", x.about(5), 8);
        x.wind(9);
        x.rain(9);
        C.due("no wind, no rain", x.about(5), 8);
        WoodPiles y = Checks.yard("Opl010l020l030");
        y.nights(1);
        C.due("a night's lift", y.about(5), 3);
    }

    private static void heat() {
        WoodPiles x = Checks.yard("Opl000l040l041l030l020");
        C.due("none yet", x.about(6), 0);
        x.draw(0);
        C.due("by draw()", x.about(6), 100);
        x.nights(1);
        C.due("in a night too", x.about(6), 180);
        x.take(3);
        C.due("not by take()", x.about(6), 180);
        x.draw(0);
        C.due("at the setting", x.about(6), 240);
        x.draw(0);
        C.due("not by smoke", x.about(6), 240);
        x.set(99);
        C.due("nor by a later setting", x.about(6), 240);
    }

    private static void smoked() {
        WoodPiles x = Checks.yard("Opl041l040l099");
        x.draw(0);
        C.due("one that burns", x.about(7), 0);
        x.draw(0);
        C.due("one above the setting", x.about(7), 1);
        x.nights(1);
        C.due("one in a night", x.about(7), 2);
        x.nights(1);
        C.due("a cold night", x.about(7), 2);
    }

    private static void coldNights() {
        WoodPiles x = Checks.yard("Opl040");
        x.nights(1);
        C.due("a night that is not cold", x.about(8), 0);
        x.nights(1);
        C.due("a cold one", x.about(8), 1);
        x.nights(9);
        C.due("nine more", x.about(8), 10);
        x.log(0, 99);
        x.nights(2);
        C.due("a night of smoke is not cold", x.about(8), 11);
        WoodPiles y = new WoodPiles();
        y.nights(3);
        C.due("without piles", y.about(8), 3);
    }

    private static void refused() {
        WoodPiles x = Checks.yard("Oppl005l006l004w30");
        x.draw(1);
        C.due("an empty pile", x.about(9), 1);
        x.draw(0);
        C.due("a pile that is off", x.about(9), 2);
        Checks.outcome(() -> x.draw(2));
        C.due("not by an exception", x.about(9), 2);
        x.nights(1);
        C.due("not by a cold night", x.about(9), 2);
        x.runScript(1, 21000);
        C.due("not in a script", x.about(9), 2);
        x.mend(0);
        x.draw(0);
        C.due("not by a draw", x.about(9), 2);
    }

    private static void dampOfAll() {
        WoodPiles x = Checks.yard("Oppl040l199l100");
        C.due("in both piles", x.about(10), 139);
        x.draw(1);
        x.take(1);
        C.due("not those burnt or taken out", x.about(10), 40);
        x.take(0);
        C.due("none", x.about(10), 0);
        WoodPiles y = Checks.yard("Op" + "l099".repeat(24));
        C.due("24 of 99", y.about(10), 2376);
    }

    private static void setting() {
        WoodPiles x = new WoodPiles();
        C.due("at first", x.about(11), 40);
        x.set(0);
        C.due("the lowest", x.about(11), 0);
        x.set(99);
        C.due("the highest", x.about(11), 99);
        Checks.outcome(() -> x.set(100));
        C.due("one refused", x.about(11), 99);
    }

    private static void aboutRefusals() {
        WoodPiles x = Checks.yard("Opl040");
        for (int what : new int[] {-1, 12, 13, Integer.MIN_VALUE, Integer.MAX_VALUE}) {
            C.refused("about(" + what + ")", x, IllegalArgumentException.class, () -> x.about(what));
        }
    }

    // ---- pileOf

    private static void promise7() {
        C.sentence("7: 0: its logs, how many", LooksEdgesTest::logsOfPile);
        C.sentence("7: 1: its top, NONE if it is empty", LooksEdgesTest::topOfPile);
        C.sentence("7: 2: its greatest depth, NONE if it is empty", LooksEdgesTest::depthOfPile);
        C.sentence("7: 3: 1 if it is covered, otherwise 0", LooksEdgesTest::coverOfPile);
        C.sentence("7: 4: the logs of it that are off, how many", LooksEdgesTest::offOfPile);
        C.sentence("7: 5: the damp of its logs together", LooksEdgesTest::dampOfPile);
        C.sentence("7: 6: why it cannot be drawn, 0 if it can be", LooksEdgesTest::whyOfPile);
    }

    private static void logsOfPile() {
        WoodPiles x = chainOf24();
        x.pile();
        C.due("24", x.pileOf(0, 0), 24);
        C.due("none", x.pileOf(1, 0), 0);
        x.draw(0);
        x.take(5);
        C.due("one burnt, one taken out", x.pileOf(0, 0), 22);
        x.join(1, 0);
        C.due("joined into another one", x.pileOf(0, 0), 0);
        C.due("which has them", x.pileOf(1, 0), 22);
    }

    private static void topOfPile() {
        WoodPiles x = Checks.yard("Oppl040");
        C.due("the first log", x.pileOf(0, 1), 0);
        C.due("an empty pile", x.pileOf(1, 1), -1);
        x.log(0, 40);
        C.due("as damp", x.pileOf(0, 1), 0);
        x.log(0, 39);
        C.due("drier", x.pileOf(0, 1), 2);
        x.draw(0);
        x.draw(0);
        C.due("the last one", x.pileOf(0, 1), 1);
        x.draw(0);
        C.due("drawn empty", x.pileOf(0, 1), -1);
    }

    private static void depthOfPile() {
        WoodPiles x = chainOf24();
        C.due("24 in a row", x.pileOf(0, 2), 23);
        x.pile();
        C.due("an empty pile", x.pileOf(1, 2), -1);
        C.due("one log", Checks.yard("Opl040").pileOf(0, 2), 0);
        C.due("two logs", Checks.yard("Opl040l041").pileOf(0, 2), 1);
        C.due("three logs, two of them side by side", Checks.yard("Opl040l041l042").pileOf(0, 2), 1);
        C.due("only on the right", Checks.yard("Opl010l020l030k02").pileOf(0, 2), 1);
        C.due("deeper on the right", Checks.yard("Opl010l015l020l030l040k04").pileOf(0, 2), 2);
        C.due("only late logs", Checks.yard("Oppl000l001l002l003l190l180l170l160l150").pileOf(1, 2), 4);
        WoodPiles y = Checks.yard("Opl040k00");
        C.due("emptied", y.pileOf(0, 2), -1);
    }

    private static void coverOfPile() {
        WoodPiles x = Checks.yard("Oppppc3+c1+c1-");
        int[] due = {0, 0, 0, 1};
        for (int p = 0; p < 4; p++) {
            C.due("pile " + p, x.pileOf(p, 3), due[p]);
        }
    }

    private static void offOfPile() {
        WoodPiles x = Checks.yard("Opppl010l010l029l005r28l199");
        C.due("one", x.pileOf(0, 4), 1);
        C.due("none", x.pileOf(1, 4), 0);
        C.due("of an empty one", x.pileOf(2, 4), 0);
        WoodPiles y = chainOf24();
        for (int i = 0; i < 7; i++) {
            y.wind(30);
        }
        C.due("all but the top", y.pileOf(0, 4), 23);
    }

    private static void dampOfPile() {
        WoodPiles x = Checks.yard("Oppl040l199l100");
        C.due("one", x.pileOf(0, 5), 40);
        C.due("two", x.pileOf(1, 5), 99);
        x.take(1);
        C.due("of 0", x.pileOf(1, 5), 0);
        x.take(2);
        C.due("of an empty one", x.pileOf(1, 5), 0);
        C.due("24 of 99", Checks.yard("Op" + "l099".repeat(24)).pileOf(0, 5), 2376);
    }

    private static void whyOfPile() {
        WoodPiles x = Checks.yard("Oppl005l006l004w30");
        C.due("off", x.pileOf(0, 6), 2);
        C.due("empty", x.pileOf(1, 6), 1);
        x.mend(0);
        C.due("it can be", x.pileOf(0, 6), 0);
        x.cover(0, true);
        C.due("covered, it can be", x.pileOf(0, 6), 0);
        C.due("too damp to burn, it can be", Checks.yard("Opl099").pileOf(0, 6), 0);
    }

    private static void promise7Refusals() {
        C.sentence("7: Throws IndexOutOfBoundsException if there is no such pile", LooksEdgesTest::noSuchPile);
        C.sentence("7: Throws IllegalArgumentException if what is not 0 to 6", LooksEdgesTest::wrongWhatOfPile);
        C.sentence("7: the one that its description names first is thrown", LooksEdgesTest::pileOfOrder);
    }

    private static void noSuchPile() {
        WoodPiles x = Checks.yard("Oppl040");
        for (int what = 0; what <= 6; what++) {
            final int asked = what;
            C.due("pile 1", Checks.outcome(() -> x.pileOf(1, asked)).startsWith("Index"), false);
            C.outOfBounds("pile 2", () -> x.pileOf(2, asked));
        }
        for (int p : FAR) {
            C.refused("pile " + p, x, IndexOutOfBoundsException.class, () -> x.pileOf(p, 0));
        }
        WoodPiles y = Checks.yard("Opppp");
        C.due("pile 3", y.pileOf(3, 0), 0);
        C.outOfBounds("pile 4", () -> y.pileOf(4, 0));
    }

    private static void wrongWhatOfPile() {
        WoodPiles x = Checks.yard("Oppl040");
        for (int what : new int[] {-1, 7, 8, Integer.MIN_VALUE, Integer.MAX_VALUE}) {
            C.refused("pileOf(0, " + what + ")", x, IllegalArgumentException.class, () -> x.pileOf(0, what));
            C.badArgument("of an empty one", () -> x.pileOf(1, what));
        }
    }

    private static void pileOfOrder() {
        WoodPiles x = Checks.yard("Op");
        C.outOfBounds("pileOf(1, 7)", () -> x.pileOf(1, 7));
        C.outOfBounds("pileOf(-1, -1)", () -> x.pileOf(-1, -1));
    }

    // ---- logOf

    private static void promise8() {
        C.sentence("8: 0: its damp", LooksEdgesTest::dampOfLog);
        C.sentence("8: 1: its pile", LooksEdgesTest::pileOfLog);
        C.sentence("8: 2: its depth", LooksEdgesTest::depthOfLog);
        C.sentence("8: 3: the log under which it lies; NONE without one", LooksEdgesTest::logAbove);
        C.sentence("8: 4: the log on the left under it; 5: the one on the right; NONE without one",
                LooksEdgesTest::logsOnBothSides);
        C.sentence("8: 6: the logs under it, directly or by others, how many", LooksEdgesTest::logsUnder);
    }

    private static void dampOfLog() {
        WoodPiles x = Checks.yard("Opl000l099l050");
        C.due("the driest", x.logOf(0, 0), 0);
        C.due("the wettest", x.logOf(1, 0), 99);
        x.wind(7);
        C.due("behind a wind", x.logOf(2, 0), 43);
        C.due("log 23", chainOf24().logOf(23, 0), 76);
    }

    private static void pileOfLog() {
        WoodPiles x = Checks.yard("Oppppl340l041l342");
        C.due("pile 3", x.logOf(0, 1), 3);
        C.due("pile 0", x.logOf(1, 1), 0);
        x.join(2, 3);
        C.due("joined", x.logOf(0, 1), 2);
        C.due("joined", x.logOf(2, 1), 2);
        C.due("not joined", x.logOf(1, 1), 0);
        x.mend(2);
        C.due("mended", x.logOf(2, 1), 2);
    }

    private static void depthOfLog() {
        WoodPiles x = chainOf24();
        C.due("the top", x.logOf(23, 2), 0);
        C.due("under the top", x.logOf(22, 2), 1);
        C.due("at the bottom", x.logOf(0, 2), 23);
        x.draw(0);
        C.due("at the bottom, without the top", x.logOf(0, 2), 22);
        x.take(10);
        C.due("at the bottom, without one between", x.logOf(0, 2), 21);
        C.due("over it", x.logOf(11, 2), 11);
    }

    private static void logAbove() {
        WoodPiles x = Checks.yard("Opl010l020l030");
        C.due("the top", x.logOf(0, 3), -1);
        C.due("on the left", x.logOf(2, 3), 0);
        C.due("on the right", x.logOf(1, 3), 0);
        x.draw(0);
        C.due("the new top", x.logOf(1, 3), -1);
        C.due("under it", x.logOf(2, 3), 1);
        WoodPiles y = Checks.yard("Opl010l020l030k01");
        y.mend(0);
        C.due("a top that was mended", y.logOf(0, 3), -1);
    }

    private static void logsOnBothSides() {
        WoodPiles x = Checks.yard("Opl010l020l030");
        C.due("left", x.logOf(0, 4), 2);
        C.due("right", x.logOf(0, 5), 1);
        C.due("none on the left", x.logOf(1, 4), -1);
        C.due("none on the right", x.logOf(2, 5), -1);
        x.take(2);
        C.due("none on the left", x.logOf(0, 4), -1);
        C.due("still on the right", x.logOf(0, 5), 1);
        x.take(1);
        C.due("none on the right", x.logOf(0, 5), -1);
    }

    private static void logsUnder() {
        WoodPiles x = chainOf24();
        C.due("24 in a row", x.logOf(23, 6), 23);
        C.due("in the middle", x.logOf(10, 6), 10);
        C.due("at the bottom", x.logOf(0, 6), 0);
        WoodPiles y = Checks.yard("Oppl010l020l030l015l025l190");
        C.dueShape(y, 0, "0:10(4:25(2:30 -) 3:15(1:20 -))");
        int[] due = {4, 0, 0, 1, 1, 0};
        for (int l = 0; l < due.length; l++) {
            C.due("under " + l, y.logOf(l, 6), due[l]);
        }
        y.take(2);
        C.due("without one that was taken out", y.logOf(0, 6), 3);
        C.due("through log 0", Checks.yard("Opl005l006l004").logOf(2, 6), 2);
    }

    private static void promise8Refusals() {
        C.sentence("8: Throws IndexOutOfBoundsException if there is no such log", LooksEdgesTest::noSuchLog);
        C.sentence("8: a log that was burnt or taken out does not exist any more", LooksEdgesTest::goneLog);
        C.sentence("8: Throws IllegalArgumentException if what is not 0 to 6", LooksEdgesTest::wrongWhatOfLog);
        C.sentence("8: the one that its description names first is thrown", LooksEdgesTest::logOfOrder);
    }

    private static void noSuchLog() {
        WoodPiles x = Checks.yard("Opl040");
        C.due("log 0", x.logOf(0, 0), 40);
        C.outOfBounds("log 1", () -> x.logOf(1, 0));
        for (int l : FAR) {
            C.refused("log " + l, x, IndexOutOfBoundsException.class, () -> x.logOf(l, 0));
        }
        C.outOfBounds("log 24", () -> chainOf24().logOf(24, 0));
        C.outOfBounds("a new object", () -> new WoodPiles().logOf(0, 0));
    }

    private static void goneLog() {
        WoodPiles x = Checks.yard("Oppl040l041l120l142");
        x.draw(0);
        x.take(1);
        x.nights(1);
        for (int what = 0; what <= 6; what++) {
            final int asked = what;
            for (int l = 0; l < 3; l++) {
                final int log = l;
                C.outOfBounds("log " + l, () -> x.logOf(log, asked));
            }
            C.due("log 3", Checks.outcome(() -> x.logOf(3, asked)).startsWith("Index"), false);
        }
        x.undo();
        C.due("one that is back", x.logOf(2, 0), 20);
    }

    private static void wrongWhatOfLog() {
        WoodPiles x = Checks.yard("Opl040");
        for (int what : new int[] {-1, 7, 8, Integer.MIN_VALUE, Integer.MAX_VALUE}) {
            C.refused("logOf(0, " + what + ")", x, IllegalArgumentException.class, () -> x.logOf(0, what));
        }
    }

    private static void logOfOrder() {
        WoodPiles x = Checks.yard("Opl040d0");
        C.outOfBounds("logOf(0, 7), burnt", () -> x.logOf(0, 7));
        C.outOfBounds("logOf(1, 7)", () -> x.logOf(1, 7));
        C.outOfBounds("logOf(-1, -1)", () -> x.logOf(-1, -1));
    }

    // ---- ranked

    private static void promise9() {
        C.sentence("9: from 0 for the log of the pile that comes ahead of all others", LooksEdgesTest::rankZero);
        C.sentence("9: how many come ahead of the log that is told", LooksEdgesTest::ranksByTies);
        C.sentence("9: Returns the log (the same for both ways).", LooksEdgesTest::sameForBothWays);
        C.sentence("9: told from the top on, by looking each time only at logs that lie directly under those found already",
                LooksEdgesTest::allRanksOf24);
    }

    private static void dueRank(WoodPiles x, int p, int rank, int log) {
        C.due("ranked(" + p + ", " + rank + ", 0)", x.ranked(p, rank, 0), log);
        C.due("ranked(" + p + ", " + rank + ", 1)", x.ranked(p, rank, 1), log);
    }

    private static void rankZero() {
        WoodPiles x = Checks.yard("Oppl040l041l140l103");
        dueRank(x, 0, 0, 0);
        dueRank(x, 1, 0, 3);
        dueRank(x, 1, 1, 2);
    }

    private static void ranksByTies() {
        WoodPiles x = Checks.yard("Opl050l049l050l050l049l000l099");
        int[] due = {5, 1, 4, 0, 2, 3, 6};
        for (int rank = 0; rank < due.length; rank++) {
            dueRank(x, 0, rank, due[rank]);
        }
    }

    private static void sameForBothWays() {
        for (int seed = 0; seed < 40; seed++) {
            WoodPiles x = Checks.yard("Opp");
            for (int l = 0; l < 20; l++) {
                x.log(l % 3 == 0 ? 1 : 0, (l * l * 7 + seed * 13 + l * seed) % 23);
            }
            x.take(seed % 20);
            x.join(0, 1);
            for (int rank = 0; rank < 19; rank++) {
                int log = x.ranked(0, rank, 1);
                dueRank(x, 0, rank, log);
                C.due("those ahead of it", ahead(x, log), rank);
            }
        }
    }

    private static int ahead(WoodPiles x, int log) {
        int ahead = 0;
        for (int l = 0; l < 20; l++) {
            final int other = l;
            String damp = Checks.outcome(() -> x.logOf(other, 0));
            boolean exists = !damp.startsWith("Index");
            int its = exists ? Integer.parseInt(damp) : 0;
            ahead += exists && (its < x.logOf(log, 0) || its == x.logOf(log, 0) && l < log) ? 1 : 0;
        }
        return ahead;
    }

    private static void allRanksOf24() {
        WoodPiles x = chainOf24();
        WoodPiles y = Checks.yard("Op" + "l050".repeat(24));
        for (int rank = 0; rank < 24; rank++) {
            dueRank(x, 0, rank, 23 - rank);
            dueRank(y, 0, rank, rank);
        }
    }

    private static void promise9Refusals() {
        C.sentence("9: Throws IndexOutOfBoundsException if there is no such pile or rank", LooksEdgesTest::noSuchRank);
        C.sentence("9: Throws IllegalArgumentException if way is neither 0 nor 1", LooksEdgesTest::wrongWay);
        C.sentence("9: Throws IllegalStateException if the pile is off", LooksEdgesTest::offHasNoRanks);
        C.sentence("9: the one that its description names first is thrown", LooksEdgesTest::rankedOrder);
    }

    private static void noSuchRank() {
        WoodPiles x = Checks.yard("Oppl040l041l142k02");
        C.due("the last rank", x.ranked(0, 1, 0), 1);
        C.outOfBounds("rank 2", () -> x.ranked(0, 2, 0));
        C.outOfBounds("rank 2", () -> x.ranked(0, 2, 1));
        C.outOfBounds("rank 0 of an empty pile", () -> x.ranked(1, 0, 0));
        C.outOfBounds("rank 0 of an empty pile", () -> x.ranked(1, 0, 1));
        C.outOfBounds("pile 2", () -> x.ranked(2, 0, 0));
        for (int far : FAR) {
            C.refused("pile " + far, x, IndexOutOfBoundsException.class, () -> x.ranked(far, 0, 0));
            C.refused("rank " + far, x, IndexOutOfBoundsException.class, () -> x.ranked(0, far, 1));
        }
        WoodPiles y = chainOf24();
        C.due("rank 23", y.ranked(0, 23, 0), 0);
        C.outOfBounds("rank 24", () -> y.ranked(0, 24, 0));
    }

    private static void wrongWay() {
        WoodPiles x = Checks.yard("Opl040l041");
        for (int way : new int[] {-1, 2, 3, Integer.MIN_VALUE, Integer.MAX_VALUE}) {
            C.refused("way " + way, x, IllegalArgumentException.class, () -> x.ranked(0, 0, way));
        }
    }

    private static void offHasNoRanks() {
        WoodPiles x = Checks.yard("Oppl005l006l004l150w30");
        for (int rank = 0; rank < 3; rank++) {
            final int asked = rank;
            C.refused("way 0", x, IllegalStateException.class, () -> x.ranked(0, asked, 0));
            C.refused("way 1", x, IllegalStateException.class, () -> x.ranked(0, asked, 1));
        }
        dueRank(x, 1, 0, 3);
        x.mend(0);
        dueRank(x, 0, 0, 0);
        dueRank(x, 0, 2, 2);
    }

    private static void rankedOrder() {
        WoodPiles x = Checks.yard("Opl005l006l004w30");
        C.outOfBounds("no rank, no way, off", () -> x.ranked(0, 3, 2));
        C.outOfBounds("no pile, no way", () -> x.ranked(1, 0, 2));
        C.outOfBounds("no rank, off", () -> x.ranked(0, -1, 0));
        C.badArgument("no way, off", () -> x.ranked(0, 0, 2));
    }
}
