/** Promises 22 to 26: what would be. */
final class ForecastTest {
    private static final Checks C = new Checks();

    public static void main(String[] args) {
        promise22DrawsTill();
        promise23IfJoined();
        promise24FewestLifts();
        promise25IfMended();
        promise26Harmless();
        C.end("ForecastTest");
    }

    private static void promise22DrawsTill() {
        WoodPiles x = Checks.yard("Opppl010l010l008l009l007l130l199");
        String before = Checks.looks(x);
        int[][] due = {{6, 0}, {7, 1}, {8, 2}, {9, 3}, {10, 5}, {99, 5}, {0, 0}};
        for (int[] one : due) {
            C.due("drawsTill(0, " + one[0] + ")", x.drawsTill(0, one[0]), one[1]);
        }
        C.due("another pile", x.drawsTill(1, 98), 1);
        C.due("another pile", x.drawsTill(1, 99), 2);
        C.due("an empty pile", x.drawsTill(2, 99), 0);
        C.due("nothing is changed", Checks.looks(x), before);
        C.outOfBounds("drawsTill(3)", () -> x.drawsTill(3, 0));
        C.outOfBounds("drawsTill(-1, 100)", () -> x.drawsTill(-1, 100));
        C.badArgument("drawsTill(0, 100)", () -> x.drawsTill(0, 100));
        C.badArgument("drawsTill(0, -1)", () -> x.drawsTill(0, -1));
        x.rain(29);
        C.due("off", x.drawsTill(0, 99), 0);
        x.mend(0);
        C.due("mended", x.drawsTill(0, 19), 3);
    }

    private static void promise23IfJoined() {
        WoodPiles x = Checks.yard("Opppl040l099l041l112l130l150c1+");
        String before = Checks.looks(x);
        C.due("ifJoined", x.ifJoined(0, 1), 2);
        C.due("ifJoined", x.ifJoined(1, 0), 2);
        C.due("with an empty one", x.ifJoined(0, 2), 0);
        C.due("nothing is changed", Checks.looks(x), before);
        C.outOfBounds("ifJoined(0, 3)", () -> x.ifJoined(0, 3));
        C.outOfBounds("ifJoined(-1, 0)", () -> x.ifJoined(-1, 0));
        C.outOfBounds("ifJoined(3, 3)", () -> x.ifJoined(3, 3));
        C.badArgument("ifJoined(1, 1)", () -> x.ifJoined(1, 1));
        C.due("join", x.join(1, 0), 2);
        C.due("ifJoined then", x.ifJoined(0, 1), 0);
    }

    private static void promise24FewestLifts() {
        C.due("no pile", new WoodPiles().fewestLifts(), 0);
        C.due("a pile", Checks.yard("Opl010l020").fewestLifts(), 0);
        C.due("empty piles", Checks.yard("Opppp").fewestLifts(), 0);
        C.due("one that is not empty", Checks.yard("Opppl110l120").fewestLifts(), 0);
        C.due("two", Checks.yard("Oppppl040l099l041l212l230l250").fewestLifts(), 2);
        C.due("four of one log", Checks.yard("Oppppl010l120l230l340").fewestLifts(), 3);
        // 1 and 2 first: 1 lift, and 1 more with 0; but 0 and 1 first: 1, and then 3 more, down the right side
        C.due("the order tells", Checks.yard("Opppl043l018l085l013l190l265").fewestLifts(), 2);
        C.due("an empty one between", Checks.yard("Oppppl043l018l085l013l290l365").fewestLifts(), 2);
        WoodPiles x = Checks.yard("Oppppl010l030l020l115l135l125l212l232l222l318l338l328");
        String before = Checks.looks(x);
        C.due("four of three", x.fewestLifts(), 9);
        C.due("nothing is changed", Checks.looks(x), before);
    }

    private static void promise25IfMended() {
        WoodPiles x = Checks.yard("Oppl010l010l008l009l007l150r29");
        String before = Checks.looks(x);
        C.due("lifts of mend", x.ifMended(0, 0), 4);
        // mended 3:18(4:36 0:19(2:37 1:19)); 3 gone: 4 against 0, 1 against 4; 0 gone: 1 and 2;
        C.due("lifts of drawing all", x.ifMended(0, 1), 4);
        WoodPiles y = Checks.yard("Oppl030l120l010l140j01");
        C.due("fewer lifts of drawing all", y.ifMended(0, 1), 2);
        C.due("than of mend", y.ifMended(0, 0), 3);
        C.due("one log", x.ifMended(1, 0) * 10 + x.ifMended(1, 1), 0);
        C.due("nothing is changed", Checks.looks(x), before);
        C.outOfBounds("ifMended(2)", () -> x.ifMended(2, 0));
        C.outOfBounds("ifMended(-1, 2)", () -> x.ifMended(-1, 2));
        C.badArgument("ifMended(0, 2)", () -> x.ifMended(0, 2));
        C.badArgument("ifMended(0, -1)", () -> x.ifMended(0, -1));
        int lifts = x.about(5);
        C.due("mend", x.mend(0), 4);
        for (int i = 0; i < 5; i++) {
            C.due("draw", x.draw(0), 0);
        }
        C.due("lifts", x.about(5) - lifts, 4 + 4);
        C.due("empty", x.ifMended(0, 0) * 10 + x.ifMended(0, 1), 0);
    }

    private static void promise26Harmless() {
        C.due("no logs", new WoodPiles().harmless(), 30);
        WoodPiles x = Checks.yard("Opl040l041l042l003");
        String before = Checks.looks(x);
        C.due("shape", Checks.shape(x, 0), "3:3(0:40(2:42 1:41) -)");
        // 1: 41 to 41 against 40 to 41, and 1 has the greater number; 2: 42 against 41
        C.due("harmless", x.harmless(), 1);
        C.due("nothing is changed", Checks.looks(x), before);
        C.due("rain(1)", x.rain(1), 0);
        C.due("none is harmless", x.harmless(), 0);
        x.cover(0, true);
        C.due("covered", x.harmless(), 30);
        x.cover(0, false);
        C.due("rain(1)", x.rain(1), 1);
        C.due("off now", x.harmless(), -1);
        x.cover(0, true);
        C.due("off now, covered", x.harmless(), -1);
        // near 99 a strong rain makes the upper logs as wet as the lower ones
        WoodPiles y = Checks.yard("Opl097l098l099l096");
        C.due("shape", Checks.shape(y, 0), "3:96(0:97(2:99 1:98) -)");
        // 2: 1 at 98 comes ahead of 0 at 99; 3 and more: 0 comes ahead of 3, both at 99
        C.due("harmless", y.harmless(), 1);
        C.due("all at 99: 0 comes ahead of 3", y.rain(30), 1);
        WoodPiles z = Checks.yard("Oppl096l197l198j01");
        C.due("shape", Checks.shape(z, 0), "0:96(1:97(2:98 -) -)");
        C.due("all at 99 by 30", z.harmless(), 30);
        C.due("though 2 does harm", z.rain(2), 1);
    }
}
