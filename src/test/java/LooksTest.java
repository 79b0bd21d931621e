/** Promises 1 and 6 to 9: a new object, and what there is. */
final class LooksTest {
    private static final Checks C = new Checks();

    public static void main(String[] args) {
        promise1New();
        promise6About();
        promise7PileOf();
        promise8LogOf();
        promise9Ranked();
        promise9Refusals();
        C.end("LooksTest");
    }

    private static void promise1New() {
        WoodPiles x = new WoodPiles();
        C.due("a new yard", Checks.looks(x), "0 0 0 0 0 0 0 0 0 0 0 40 ");
        C.due("no text", x.clearText(), 0);
        C.badState("nothing remembered", x::undo);
        C.badState("slot 0 empty", () -> x.restore(0));
        C.badState("slot 1 empty", () -> x.restore(1));
        C.outOfBounds("no pile", () -> x.pileOf(0, 0));
        C.outOfBounds("no log", () -> x.logOf(0, 0));
        WoodPiles y = new WoodPiles();
        y.pile();
        C.due("two objects share nothing", x.about(0), 0);
    }

    private static void promise6About() {
        // 0:40, then 1:12 over it (1 lift), 2:77 under 1 (1 lift); 3:55 alone in pile 1
        WoodPiles x = Checks.yard("Oppl040l012l077l155");
        C.due("piles", x.about(0), 2);
        C.due("came", x.about(1), 4);
        C.due("in piles", x.about(2), 4);
        C.due("lifts", x.about(5), 2);
        C.due("damp", x.about(10), 184);
        // drawing 1:12 joins 2:77 and 0:40, with a lift
        C.due("draw", x.draw(0), 0);
        C.due("lifts", x.about(5), 3);
        C.due("heat", x.about(6), 88);
        C.due("burnt", x.about(3), 1);
        C.due("in piles", x.about(2), 3);
        C.due("came", x.about(1), 4);
        C.due("draw 3:55, which smokes", x.draw(1), 0);
        C.due("smoked", x.about(7), 1);
        C.due("burnt, smoking", x.about(3), 2);
        C.due("heat, smoking", x.about(6), 88);
        C.due("draw refused", x.draw(1), 1);
        C.due("refused", x.about(9), 1);
        C.due("take", x.take(2), 0);
        C.due("taken out", x.about(4), 1);
        C.due("burnt still", x.about(3), 2);
        C.due("in piles", x.about(2), 1);
        C.due("damp", x.about(10), 40);
        C.due("two nights", x.nights(2), 60);
        C.due("cold", x.about(8), 1);
        C.due("refused by nights", x.about(9), 1);
        x.set(99);
        C.due("setting", x.about(11), 99);
        C.badArgument("about(-1)", () -> x.about(-1));
        C.badArgument("about(12)", () -> x.about(12));
        C.badArgument("about(max)", () -> x.about(Integer.MAX_VALUE));
    }

    private static void promise7PileOf() {
        WoodPiles x = Checks.yard("Oppl040l012l077l003c0+");
        // 3:3 over 1:12, under which 2:77 came left and 0:40 went right
        C.due("shape", Checks.shape(x, 0), "3:3(1:12(2:77 0:40) -)");
        int[] due = {4, 3, 2, 1, 0, 132, 0};
        int[] dueEmpty = {0, -1, -1, 0, 0, 0, 1};
        for (int what = 0; what <= 6; what++) {
            C.due("pileOf(0, " + what + ")", x.pileOf(0, what), due[what]);
            C.due("pileOf(1, " + what + ")", x.pileOf(1, what), dueEmpty[what]);
        }
        x.log(1, 90);
        C.due("the depth of a top alone", x.pileOf(1, 2), 0);
        C.outOfBounds("pileOf(-1)", () -> x.pileOf(-1, 0));
        C.outOfBounds("pileOf(2)", () -> x.pileOf(2, 0));
        C.outOfBounds("pileOf(2, 7)", () -> x.pileOf(2, 7));
        C.outOfBounds("pileOf(min)", () -> x.pileOf(Integer.MIN_VALUE, -1));
        C.badArgument("pileOf(0, 7)", () -> x.pileOf(0, 7));
        C.badArgument("pileOf(0, -1)", () -> x.pileOf(0, -1));
        WoodPiles y = Checks.yard("Opl010l010l008l009l007");
        C.due("shape", Checks.shape(y, 0), "4:7(2:8(3:9 0:10(1:10 -)) -)");
        C.due("not off", y.pileOf(0, 6), 0);
        y.rain(29);
        C.due("shape", Checks.shape(y, 0), "4:36(2:37(3:18 0:19(1:19 -)) -)");
        C.due("off", y.pileOf(0, 4), 2);
        C.due("off is the reason", y.pileOf(0, 6), 2);
    }

    private static void promise8LogOf() {
        WoodPiles x = Checks.yard("Oppl140l112l177l103l050");
        C.due("shape", Checks.shape(x, 1), "3:3(1:12(2:77 0:40) -)");
        int[][] due = {{40, 1, 2, 1, -1, -1, 0}, {12, 1, 1, 3, 2, 0, 2}, {77, 1, 2, 1, -1, -1, 0},
            {3, 1, 0, -1, 1, -1, 3}, {50, 0, 0, -1, -1, -1, 0}};
        for (int l = 0; l < due.length; l++) {
            for (int what = 0; what <= 6; what++) {
                C.due("logOf(" + l + ", " + what + ")", x.logOf(l, what), due[l][what]);
            }
        }
        C.badArgument("logOf(0, 7)", () -> x.logOf(0, 7));
        C.badArgument("logOf(0, -1)", () -> x.logOf(0, -1));
        C.outOfBounds("logOf(5)", () -> x.logOf(5, 0));
        C.outOfBounds("logOf(-1)", () -> x.logOf(-1, 0));
        C.outOfBounds("logOf(24)", () -> x.logOf(24, 0));
        C.outOfBounds("logOf(max, 7)", () -> x.logOf(Integer.MAX_VALUE, 7));
        x.draw(1);
        C.outOfBounds("a log that was burnt", () -> x.logOf(3, 0));
        x.take(0);
        C.outOfBounds("a log that was taken out", () -> x.logOf(0, 9));
        C.due("the log over it", x.logOf(1, 6), 1);
        WoodPiles y = Checks.yard("Opl010l010l008l009l007");
        C.due("shape", Checks.shape(y, 0), "4:7(2:8(3:9 0:10(1:10 -)) -)");
        int[] under = {1, 0, 3, 0, 4};
        for (int l = 0; l < under.length; l++) {
            C.due("under " + l, y.logOf(l, 6), under[l]);
            C.due("ranked(0, " + l + ", 0)", y.ranked(0, l, 0), new int[] {4, 2, 3, 0, 1}[l]);
        }
    }

    private static void promise9Ranked() {
        WoodPiles x = Checks.yard("Oppl040l012l077l012l003l060l140l155l040l012");
        int[] due = {4, 1, 3, 9, 0, 8, 5, 2};
        for (int rank = 0; rank < due.length; rank++) {
            C.due("ranked(0, " + rank + ", 0)", x.ranked(0, rank, 0), due[rank]);
            C.due("ranked(0, " + rank + ", 1)", x.ranked(0, rank, 1), due[rank]);
        }
        C.due("the other pile", x.ranked(1, 0, 0), 6);
        C.due("the other pile", x.ranked(1, 0, 1), 6);
        C.due("the other pile", x.ranked(1, 1, 0), 7);
        C.due("the other pile", x.ranked(1, 1, 1), 7);
        String before = Checks.looks(x);
        x.ranked(0, 3, 0);
        C.due("nothing is changed", Checks.looks(x), before);
    }

    private static void promise9Refusals() {
        WoodPiles x = Checks.yard("Oppl010l010l008l009l007");
        C.outOfBounds("no such pile", () -> x.ranked(2, 0, 0));
        C.outOfBounds("no such pile", () -> x.ranked(-1, 0, 0));
        C.outOfBounds("rank of an empty pile", () -> x.ranked(1, 0, 0));
        C.outOfBounds("rank -1", () -> x.ranked(0, -1, 0));
        C.outOfBounds("rank 5", () -> x.ranked(0, 5, 1));
        C.outOfBounds("rank 5, way 2", () -> x.ranked(0, 5, 2));
        C.badArgument("way 2", () -> x.ranked(0, 4, 2));
        C.badArgument("way -1", () -> x.ranked(0, 0, -1));
        x.rain(29);
        C.badState("off, way 0", () -> x.ranked(0, 0, 0));
        C.badState("off, way 1", () -> x.ranked(0, 4, 1));
        C.badArgument("off, way 2", () -> x.ranked(0, 0, 2));
        C.outOfBounds("off, rank 5", () -> x.ranked(0, 5, 0));
        x.log(1, 4);
        C.due("the other pile is not off", x.ranked(1, 0, 0), 5);
        WoodPiles y = Checks.yard("Opl040l041l042l003r02");
        C.due("one is off", y.pileOf(0, 4), 1);
        C.badState("one is off, way 0", () -> y.ranked(0, 0, 0));
        C.badState("one is off, way 1", () -> y.ranked(0, 0, 1));
    }
}
