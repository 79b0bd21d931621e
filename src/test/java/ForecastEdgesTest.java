import java.util.ArrayList;
import java.util.List;

/** Promises 22 to 26, sentence by sentence, at the edges that they name. */
final class ForecastEdgesTest {
    private static final Checks C = new Checks();
    private static final int[] FAR = {-1, 4, 24, Integer.MIN_VALUE, Integer.MAX_VALUE};
    /** Yards of all kinds: empty piles, ties, logs that are off, covers, logs on the right alone. */
    private static final String[] YARDS = {"O", "Op", "Opp", "Opl040", "Oppl040", "Oppl040l140", "Oppl010l030l020l115l135l125",
        "Oppppl043l018l085l013l290l365", "Oppppl010l030l020l115l135l125l212l232l222l318l338l328",
        "Oppl005l006l004l150l151w30", "Oppppl040l041l042l003l180l112l299l300c1+r25", "Opppl010l020l030k02l140l141l142k05l215",
        "Oppppl350l340l330l320l310l250l245l235l225l120l118l116l099l098l097r20"};

    public static void main(String[] args) {
        promise22();
        promise23();
        promise24();
        promise25();
        promise26();
        harmlessEdges();
        C.sentence("22 to 26: these and all following methods up to the save slots change nothing",
                ForecastEdgesTest::changeNothing);
        C.end("ForecastEdgesTest");
    }

    // ---- drawsTill

    private static void promise22() {
        C.sentence("22: Returns how often the pile can be drawn, one time behind the other", ForecastEdgesTest::drawnOneByOne);
        C.sentence("22: as long as its top is at most as damp as that", ForecastEdgesTest::atMostAsDamp);
        C.sentence("22: damp: 0 to 99", ForecastEdgesTest::dampsTill);
        C.sentence("22: Throws IndexOutOfBoundsException if there is no such pile", ForecastEdgesTest::drawsOfNoPile);
        C.sentence("22: Throws IllegalArgumentException if damp is out of range", ForecastEdgesTest::drawsTillNoDamp);
        C.sentence("22: the one that its description names first is thrown", ForecastEdgesTest::orderOfDrawsTill);
    }

    private static void drawnOneByOne() {
        C.due("an empty pile", Checks.yard("Op").drawsTill(0, 99), 0);
        C.due("a pile that is off", Checks.yard("Opl005l006l004w30").drawsTill(0, 99), 0);
        C.due("one log", Checks.yard("Opl040").drawsTill(0, 99), 1);
        C.due("24 logs", Checks.yard("Op" + "l099l000l050".repeat(8)).drawsTill(0, 99), 24);
        for (String text : YARDS) {
            for (int p = 0; p < Checks.yard(text).about(0); p++) {
                for (int damp : new int[] {0, 5, 20, 40, 41, 60, 99}) {
                    C.due(text + ": drawsTill(" + p + ", " + damp + ")", Checks.yard(text).drawsTill(p, damp),
                            drawn(Checks.yard(text), p, damp));
                }
            }
        }
    }

    private static int drawn(WoodPiles x, int p, int damp) {
        int draws = 0;
        while (x.pileOf(p, 0) > 0 && x.logOf(x.pileOf(p, 1), 0) <= damp && x.draw(p) == 0) {
            draws++;
        }
        return draws;
    }

    private static void atMostAsDamp() {
        WoodPiles x = Checks.yard("Oppl040l041l041l043l100");
        int[][] due = {{0, 0}, {39, 0}, {40, 1}, {41, 3}, {42, 3}, {43, 4}, {99, 4}};
        for (int[] one : due) {
            C.due("drawsTill(0, " + one[0] + ")", x.drawsTill(0, one[0]), one[1]);
        }
        x.set(0);
        C.due("the setting does not count", x.drawsTill(0, 41), 3);
        x.cover(0, true);
        C.due("nor the cover", x.drawsTill(0, 41), 3);
        C.due("the other pile", x.drawsTill(1, 0), 1);
    }

    private static void dampsTill() {
        WoodPiles x = Checks.yard("Opl000l099");
        C.due("0", x.drawsTill(0, 0), 1);
        C.due("98", x.drawsTill(0, 98), 1);
        C.due("99", x.drawsTill(0, 99), 2);
    }

    private static void drawsOfNoPile() {
        WoodPiles x = Checks.yard("Opp");
        for (int p : FAR) {
            C.refused("pile " + p, x, IndexOutOfBoundsException.class, () -> x.drawsTill(p, 50));
        }
        C.outOfBounds("pile 2", () -> x.drawsTill(2, 50));
    }

    private static void drawsTillNoDamp() {
        WoodPiles x = Checks.yard("Oppl040");
        for (int damp : new int[] {-1, 100, 101, Integer.MIN_VALUE, Integer.MAX_VALUE}) {
            C.refused("damp " + damp, x, IllegalArgumentException.class, () -> x.drawsTill(0, damp));
            C.badArgument("damp " + damp + " of an empty pile", () -> x.drawsTill(1, damp));
        }
    }

    private static void orderOfDrawsTill() {
        C.outOfBounds("no pile, no damp", () -> Checks.yard("Op").drawsTill(1, 100));
        C.outOfBounds("no pile, no damp", () -> Checks.yard("Op").drawsTill(-1, -1));
    }

    // ---- ifJoined

    private static void promise23() {
        C.sentence("23: Returns what join() would return.", ForecastEdgesTest::asJoin);
        C.sentence("23: Throws IndexOutOfBoundsException if there is no such pile", ForecastEdgesTest::ifJoinedNoPile);
        C.sentence("23: Throws IllegalArgumentException if both are the same", ForecastEdgesTest::ifJoinedSame);
        C.sentence("23: the one that its description names first is thrown", ForecastEdgesTest::orderOfIfJoined);
    }

    private static void asJoin() {
        C.due("both empty", Checks.yard("Opp").ifJoined(0, 1), 0);
        C.due("one empty", Checks.yard("Oppl040l041").ifJoined(1, 0), 0);
        C.due("one log each", Checks.yard("Oppl040l141").ifJoined(0, 1), 1);
        C.due("three logs each", Checks.yard("Oppl010l030l020l115l135l125").ifJoined(0, 1), 3);
        for (String text : YARDS) {
            WoodPiles x = Checks.yard(text);
            for (int p = 0; p < x.about(0); p++) {
                for (int q = 0; q < x.about(0); q++) {
                    if (p != q) {
                        C.due(text + ": " + p + " and " + q, x.ifJoined(p, q), Checks.yard(text).join(p, q));
                    }
                }
            }
        }
    }

    private static void ifJoinedNoPile() {
        WoodPiles x = Checks.yard("Oppl040l141");
        for (int far : FAR) {
            C.refused("the first is " + far, x, IndexOutOfBoundsException.class, () -> x.ifJoined(far, 1));
            C.refused("the other is " + far, x, IndexOutOfBoundsException.class, () -> x.ifJoined(0, far));
        }
        C.outOfBounds("the first is 2", () -> x.ifJoined(2, 0));
        C.outOfBounds("the other is 2", () -> x.ifJoined(0, 2));
    }

    private static void ifJoinedSame() {
        WoodPiles x = Checks.yard("Oppppl040");
        for (int p = 0; p < 4; p++) {
            final int same = p;
            C.refused("ifJoined(" + p + ", " + p + ")", x, IllegalArgumentException.class, () -> x.ifJoined(same, same));
        }
    }

    private static void orderOfIfJoined() {
        WoodPiles x = Checks.yard("Opp");
        for (int p : new int[] {2, 3, 4, -1, Integer.MIN_VALUE}) {
            C.outOfBounds("ifJoined(" + p + ", " + p + ")", () -> x.ifJoined(p, p));
        }
    }

    // ---- fewestLifts

    private static void promise24() {
        C.sentence("24: 0 with fewer than 2 piles", ForecastEdgesTest::fewerThanTwo);
        C.sentence("24: Returns the fewest lifts with which all piles can be joined, two by two, till all logs are in one",
                ForecastEdgesTest::fewestOfAllOrders);
        C.sentence("24: all piles, also those that are empty, off or covered", ForecastEdgesTest::piledUp);
    }

    private static void fewerThanTwo() {
        C.due("no pile", new WoodPiles().fewestLifts(), 0);
        C.due("an empty one", Checks.yard("Op").fewestLifts(), 0);
        C.due("one of many logs", Checks.yard("Op" + "l050l010".repeat(12)).fewestLifts(), 0);
        C.due("two", Checks.yard("Oppl050l110").fewestLifts(), 1);
    }

    private static void fewestOfAllOrders() {
        // 1 and 2 first: 1 lift, and 1 more with 0; but 0 and 1 first: 1, and then 3 more, down the right side
        C.due("the order tells", Checks.yard("Opppl043l018l085l013l190l265").fewestLifts(), 2);
        C.due("four of one log each", Checks.yard("Oppppl050l140l230l320").fewestLifts(), 3);
        for (String text : YARDS) {
            C.due(text, Checks.yard(text).fewestLifts(), fewest(Checks.yard(text), new ArrayList<>()));
        }
        for (int seed = 0; seed < 40; seed++) {
            C.due("seed " + seed, filled(seed).fewestLifts(), fewest(filled(seed), new ArrayList<>()));
        }
    }

    private static WoodPiles filled(int seed) {
        WoodPiles x = Checks.yard("Opppp");
        for (int l = 0; l < 24; l++) {
            x.log((l + l * l * seed) % 4, (l * 37 + seed * 11 + l * l * (seed + 3)) % 100);
        }
        return x;
    }

    /** All orders tried with join() and undo() on the yard itself, each pile joined into another one, also empty ones. */
    private static int fewest(WoodPiles x, List<Integer> gone) {
        int least = Integer.MAX_VALUE;
        for (int p = 0; p < x.about(0); p++) {
            for (int q = p + 1; q < x.about(0); q++) {
                if (!gone.contains(p) && !gone.contains(q)) {
                    int lifts = x.join(p, q);
                    gone.add(q);
                    least = Math.min(least, lifts + fewest(x, gone));
                    gone.remove((Integer) q);
                    x.undo();
                }
            }
        }
        return least == Integer.MAX_VALUE ? 0 : least;
    }

    private static void piledUp() {
        C.due("empty piles", Checks.yard("Opppp").fewestLifts(), 0);
        for (int p = 0; p < 4; p++) {
            WoodPiles x = Checks.yard("Opppp");
            x.log(p, 40);
            x.log(p, 41);
            C.due("only pile " + p, x.fewestLifts(), 0);
            x.log((p + 1) % 4, 42);
            C.due("pile " + p + " and the next one", x.fewestLifts(), 1);
            x.log((p + 3) % 4, 39);
            C.due("three", x.fewestLifts(), 2);
        }
        C.due("one is off", Checks.yard("Oppl005l006l004w30l107").fewestLifts(), 1);
        C.due("one is covered", Checks.yard("Oppl005l107c0+").fewestLifts(), 1);
    }

    // ---- ifMended

    private static void promise25() {
        C.sentence("25: 0: the lifts of mend()", ForecastEdgesTest::liftsOfMend);
        C.sentence("25: 1: those of drawing all its logs behind that", ForecastEdgesTest::liftsOfDrawing);
        C.sentence("25: Throws IndexOutOfBoundsException if there is no such pile", ForecastEdgesTest::ifMendedNoPile);
        C.sentence("25: Throws IllegalArgumentException if what is neither 0 nor 1", ForecastEdgesTest::ifMendedNoWhat);
        C.sentence("25: the one that its description names first is thrown", ForecastEdgesTest::orderOfIfMended);
    }

    private static void liftsOfMend() {
        C.due("an empty pile", Checks.yard("Op").ifMended(0, 0), 0);
        C.due("one log", Checks.yard("Opl040").ifMended(0, 0), 0);
        C.due("two logs", Checks.yard("Opl040l041").ifMended(0, 0), 1);
        C.due("four logs, one off", Checks.yard("Opl010l010l029l005r28").ifMended(0, 0), 4);
        for (String text : YARDS) {
            for (int p = 0; p < Checks.yard(text).about(0); p++) {
                C.due(text + ": pile " + p, Checks.yard(text).ifMended(p, 0), Checks.yard(text).mend(p));
            }
        }
    }

    private static void liftsOfDrawing() {
        C.due("an empty pile", Checks.yard("Op").ifMended(0, 1), 0);
        C.due("one log", Checks.yard("Opl040").ifMended(0, 1), 0);
        C.due("two logs", Checks.yard("Opl040l041").ifMended(0, 1), 0);
        C.due("three logs", Checks.yard("Opl040l041l042").ifMended(0, 1), 1);
        for (String text : YARDS) {
            for (int p = 0; p < Checks.yard(text).about(0); p++) {
                C.due(text + ": pile " + p, Checks.yard(text).ifMended(p, 1), drawnEmpty(Checks.yard(text), p));
            }
        }
        WoodPiles x = Checks.yard("Op" + "l050l010l099".repeat(8) + "r30");
        C.due("24 logs", x.ifMended(0, 1), drawnEmpty(Checks.yard("Op" + "l050l010l099".repeat(8) + "r30"), 0));
    }

    private static int drawnEmpty(WoodPiles x, int p) {
        x.mend(p);
        int before = x.about(5);
        while (x.draw(p) == 0) {
            C.due("a log is drawn", x.about(9), 0);
        }
        return x.about(5) - before;
    }

    private static void ifMendedNoPile() {
        WoodPiles x = Checks.yard("Oppl040");
        for (int p : FAR) {
            C.refused("pile " + p, x, IndexOutOfBoundsException.class, () -> x.ifMended(p, 0));
        }
        C.outOfBounds("pile 2", () -> x.ifMended(2, 1));
    }

    private static void ifMendedNoWhat() {
        WoodPiles x = Checks.yard("Oppl040");
        for (int what : new int[] {-1, 2, 3, Integer.MIN_VALUE, Integer.MAX_VALUE}) {
            C.refused("what " + what, x, IllegalArgumentException.class, () -> x.ifMended(0, what));
            C.badArgument("what " + what + " of an empty pile", () -> x.ifMended(1, what));
        }
    }

    private static void orderOfIfMended() {
        C.outOfBounds("no pile, no what", () -> Checks.yard("Op").ifMended(1, 2));
        C.outOfBounds("no pile, no what", () -> Checks.yard("Op").ifMended(-1, -1));
    }

    // ---- harmless

    private static void promise26() {
        C.sentence("26: Returns the greatest w, 0 to 30, for which no log would be off behind a rain of w",
                ForecastEdgesTest::greatestHarmless);
        C.sentence("26: (0 for none)", ForecastEdgesTest::noneIsHarmless);
        C.sentence("26: NONE if any is off now", ForecastEdgesTest::offNow);
    }

    private static void greatestHarmless() {
        for (String text : YARDS) {
            C.due(text, Checks.yard(text).harmless(), tried(text));
        }
        // 0:50 lies at depth 2, 1:d and 2:10 over it
        for (int damp = 30; damp <= 50; damp++) {
            String text = "Opl050l0" + damp + "l010";
            C.due(text, Checks.yard(text).harmless(), tried(text));
        }
        for (int damp = 60; damp <= 99; damp++) {
            String text = "Opl099l0" + damp + "l055";
            C.due(text, Checks.yard(text).harmless(), tried(text));
        }
    }

    private static int tried(String text) {
        int best = -1;
        int off = 0;
        for (int p = 0; p < Checks.yard(text).about(0); p++) {
            off += Checks.yard(text).pileOf(p, 4);
        }
        if (off == 0) {
            best = 0;
            for (int w = 1; w <= 30; w++) {
                best = Checks.yard(text).rain(w) == 0 ? w : best;
            }
        }
        return best;
    }

    private static void noneIsHarmless() {
        WoodPiles x = Checks.yard("Opl040l040l003");
        C.dueShape(x, 0, "2:3(0:40(1:40 -) -)");
        C.due("1 is the drier one by any rain", x.harmless(), 0);
        C.due("a rain of 1", x.rain(1), 1);
        C.due("1 of the other kind of pile too", Checks.yard("Oppl140l140l103l099").harmless(), 0);
    }

    private static void offNow() {
        WoodPiles x = Checks.yard("Oppl005l006l004w30");
        C.due("off", x.harmless(), WoodPiles.NONE);
        x.cover(0, true);
        C.due("off, and covered", x.harmless(), -1);
        x.mend(0);
        C.due("mended", x.harmless(), 30);
        WoodPiles y = Checks.yard("Oppppl305l306l304w30");
        C.due("in the last pile", y.harmless(), -1);
        // log 3 is off under 0, and would not be if both were 99
        WoodPiles z = Checks.yard("Opl056l057l058l059r30k01");
        C.due("off now, though a rain would mend that", z.harmless(), -1);
        C.due("a rain mends that", z.rain(30), 0);
    }

    private static void harmlessEdges() {
        C.sentence("26: Finds the strongest rain that does no harm: 30", ForecastEdgesTest::allAreHarmless);
        C.sentence("26: Finds the strongest rain that does no harm: 29, but not 30", ForecastEdgesTest::notThe30th);
        C.sentence("26: Finds the strongest rain that does no harm: one above some that do harm", ForecastEdgesTest::aboveHarm);
    }

    private static void allAreHarmless() {
        C.due("no pile", new WoodPiles().harmless(), 30);
        C.due("no log", Checks.yard("Opppp").harmless(), 30);
        C.due("one log", Checks.yard("Opl099").harmless(), 30);
        C.due("none inside", Checks.yard("Opl040l041l042").harmless(), 30);
        C.due("all covered", Checks.yard("Opl040l040l003c0+").harmless(), 30);
        C.due("wet enough inside: by 21", Checks.yard("Opl061l040l003").harmless(), 30);
    }

    private static void notThe30th() {
        WoodPiles x = Checks.yard("Opl070l069");
        C.due("70 and 69", x.harmless(), 29);
        C.due("a rain of 29", x.rain(29), 0);
        WoodPiles y = Checks.yard("Opl070l069");
        C.due("a rain of 30: both are 99", y.rain(30), 1);
    }

    private static void aboveHarm() {
        WoodPiles x = Checks.yard("Oppl096l197l198j01");
        C.dueShape(x, 0, "0:96(1:97(2:98 -) -)");
        C.due("a rain of 2 does harm", Checks.yard("Oppl096l197l198j01").rain(2), 1);
        C.due("one of 3 does none", Checks.yard("Oppl096l197l198j01").rain(3), 0);
        C.due("nor does one of 30", x.harmless(), 30);
    }

    // ---- nothing is changed

    private static void changeNothing() {
        for (String text : YARDS) {
            WoodPiles x = Checks.yard(text);
            String before = Checks.looks(x);
            x.fewestLifts();
            x.harmless();
            for (int p = 0; p < x.about(0); p++) {
                x.drawsTill(p, 99);
                x.ifMended(p, p % 2);
                final int q = (p + 1) % x.about(0);
                final int pile = p;
                Checks.outcome(() -> x.ifJoined(pile, q));
            }
            C.due(text + ", the state", Checks.looks(x), before);
            C.badState(text + ", nothing is remembered", x::undo);
            C.badState(text + ", nothing is saved", () -> x.restore(0));
            C.due(text + ", no text", x.clearText(), 0);
        }
    }
}
