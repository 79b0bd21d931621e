/** Promises 27 and 28, sentence by sentence, at the edges that they name. */
final class ScriptsEdgesTest {
    private static final Checks C = new Checks();
    /** Pile 0 with five logs, two of them off; log 5 in pile 1; pile 2 empty. */
    private static final String YARD = "Opppl010l010l008l009l007l150r29";

    public static void main(String[] args) {
        promise27();
        commands();
        refusals();
        promise28();
        turns();
        C.end("ScriptsEdgesTest");
    }

    // ---- scripts

    private static void promise27() {
        C.sentence("27: Runs a script on a copy of the state.", ScriptsEdgesTest::onACopy);
        C.sentence("27: A script has 1 to 3 commands", ScriptsEdgesTest::oneToThree);
        C.sentence("27: the first command is the highest group of the number", ScriptsEdgesTest::highestIsFirst);
        C.sentence("27: (with zeros before it, if it has fewer digits)", ScriptsEdgesTest::zerosBefore);
        C.sentence("27: Returns the index, from 0, of the first command that fails", ScriptsEdgesTest::firstThatFails);
        C.sentence("27: NONE if all succeed", ScriptsEdgesTest::allSucceed);
        C.sentence("27: (the copy goes from command to command)", ScriptsEdgesTest::copyGoesOn);
    }

    private static void group(String text, int group, boolean succeeds) {
        C.due(group + " with " + text, Checks.yard(text).runScript(1, group), succeeds ? -1 : 0);
    }

    private static void onACopy() {
        WoodPiles x = Checks.yard(YARD);
        x.set(50);
        String before = Checks.looks(x);
        for (int group : new int[] {11001, 21000, 30000, 40100, 50030, 51030, 60000, 70001, 80040, 90002, 20000, 99999}) {
            x.runScript(1, group);
            C.due("the state behind " + group, Checks.looks(x), before);
        }
        x.runScript(3, 600002000030100L);
        C.due("the state behind three", Checks.looks(x), before);
        C.due("only the action of before is remembered", x.undo(), 0);
        C.badState("nothing is saved", () -> x.restore(0));
        C.due("the text", x.clearText(), 0);
    }

    private static void oneToThree() {
        WoodPiles x = Checks.yard("Op");
        C.due("one", x.runScript(1, 10005), -1);
        C.due("two", x.runScript(2, 1000510006L), -1);
        C.due("three", x.runScript(3, 100051000670002L), -1);
        C.due("three are all done", x.runScript(3, 100051000670003L), 2);
    }

    private static void highestIsFirst() {
        WoodPiles x = Checks.yard("Op");
        C.due("a log, then a draw", x.runScript(2, 1000520000L), -1);
        C.due("a draw, then a log", x.runScript(2, 2000010005L), 0);
        C.due("a log, a draw, a log that is gone", x.runScript(3, 100052000080000L), 2);
        C.due("a log, its top, a draw", x.runScript(3, 100058000020000L), -1);
    }

    private static void zerosBefore() {
        WoodPiles x = Checks.yard("Opl040");
        C.due("one of two", x.runScript(2, 20000), 0);
        C.due("one of three", x.runScript(3, 20000), 0);
        C.due("two of three", x.runScript(3, 2000070000L), 0);
        C.due("four digits: 02000", x.runScript(1, 2000), 0);
        C.due("0", x.runScript(1, 0), 0);
        C.due("0 for three", x.runScript(3, 0), 0);
        C.due("zeros in the middle", x.runScript(3, 700010000020000L), 1);
        C.due("zeros at the end", x.runScript(3, 700017000100000L), 2);
    }

    private static void firstThatFails() {
        WoodPiles x = Checks.yard("Opl040");
        C.due("the first", x.runScript(3, 210007000170001L), 0);
        C.due("the second", x.runScript(3, 700012100070001L), 1);
        C.due("the third", x.runScript(3, 700017000121000L), 2);
        C.due("two fail", x.runScript(3, 700019999999999L), 1);
        C.due("all fail", x.runScript(3, 999999999999999L), 0);
    }

    private static void allSucceed() {
        WoodPiles x = Checks.yard("Opl040");
        C.due("one", x.runScript(1, 70001), WoodPiles.NONE);
        C.due("two", x.runScript(2, 7000170001L), WoodPiles.NONE);
        C.due("three", x.runScript(3, 700017000170001L), WoodPiles.NONE);
    }

    private static void copyGoesOn() {
        C.due("join, then the log's draw", Checks.yard("Oppl140").runScript(2, 4010020000L), -1);
        C.due("join, then the draw of the empty one", Checks.yard("Oppl140").runScript(2, 4010021000L), 1);
        C.due("two draws of one log", Checks.yard("Opl040").runScript(2, 2000020000L), 1);
        C.due("a log that is taken out twice", Checks.yard("Opl040").runScript(2, 3000030000L), 1);
        C.due("rain, mend, draw", Checks.yard("Opl040l041l042l003").runScript(3, 510026000020000L), -1);
        C.due("rain, draw", Checks.yard("Opl040l041l042l003").runScript(2, 5100220000L), 1);
        C.due("wind, top", Checks.yard("Opl005l006l004").runScript(3, 500306000080000L), -1);
    }

    // ---- the commands

    private static void commands() {
        C.sentence("27: 1 p 0 d d: log(p, dd).", ScriptsEdgesTest::logCommand);
        C.sentence("27: 2 p 0 0 0: draw(p); succeeds if it is drawn.", ScriptsEdgesTest::drawCommand);
        C.sentence("27: 3 l l 0 0: take(ll).", ScriptsEdgesTest::takeCommand);
        C.sentence("27: 4 p q 0 0: join(p, q).", ScriptsEdgesTest::joinCommand);
        C.sentence("27: 5 k 0 w w: wind(ww) with k as 0, rain(ww) with k as 1.", ScriptsEdgesTest::weatherCommand);
        C.sentence("27: 6 p 0 0 0: mend(p).", ScriptsEdgesTest::mendCommand);
        C.sentence("27: 7 p 0 n n: succeeds if the pile p has at least nn logs.", ScriptsEdgesTest::atLeastLogs);
        C.sentence("27: 8 p l l 0: succeeds if the log ll is the top of the pile p.", ScriptsEdgesTest::isTheTop);
        C.sentence("27: 9 p 0 n n: succeeds if at most nn logs of the pile p are off.", ScriptsEdgesTest::atMostOff);
        C.sentence("27: The commands 1 to 6 fail if the method would throw an exception", ScriptsEdgesTest::methodsThatThrow);
        C.sentence("27: commands with piles or logs that do not exist fail", ScriptsEdgesTest::noPilesNoLogs);
        C.sentence("27: and so does any other group (also one with another digit where a 0 is written, or a k above 1)",
                ScriptsEdgesTest::otherGroups);
    }

    private static void logCommand() {
        group(YARD, 10000, true);
        group(YARD, 12099, true);
        WoodPiles x = Checks.yard("Oppl150");
        C.due("into pile 1, drier", x.runScript(2, 1104981010L), -1);
        C.due("into pile 1, as damp", x.runScript(2, 1105081000L), -1);
        C.due("into pile 0", x.runScript(2, 1005080010L), -1);
        group("Op" + "l050".repeat(23), 10000, true);
        group("Op" + "l050".repeat(24), 10000, false);
        group("Op" + "l050".repeat(24) + "d0", 10000, false);
    }

    private static void drawCommand() {
        group(YARD, 21000, true);
        group(YARD, 20000, false);
        group(YARD, 22000, false);
        group(YARD, 23000, false);
        group("Opl099", 20000, true);
        C.due("the top is drawn", Checks.yard("Opl040l041").runScript(2, 2000080010L), -1);
    }

    private static void takeCommand() {
        for (int l = 0; l <= 5; l++) {
            group(YARD, 30000 + 100 * l, true);
        }
        group(YARD, 30600, false);
        group("Opl040d0", 30000, false);
        group("Opl040k00", 30000, false);
        group("Op" + "l050".repeat(24), 31000, true);
        group("Op" + "l050".repeat(24), 32300, true);
        group("Op" + "l050".repeat(24), 32400, false);
        group("Op" + "l050".repeat(24), 39900, false);
        C.due("just that one", Checks.yard("Opl040l041").runScript(3, 301007000180000L), -1);
    }

    private static void joinCommand() {
        group(YARD, 40100, true);
        group(YARD, 42000, true);
        group(YARD, 40000, false);
        group(YARD, 42200, false);
        group(YARD, 40300, false);
        group(YARD, 43000, false);
        group(YARD, 43300, false);
        C.due("the first has both", Checks.yard("Oppl040l141").runScript(2, 4100071002L), -1);
        C.due("the other is empty", Checks.yard("Oppl040l141").runScript(2, 4100070001L), 1);
    }

    private static void weatherCommand() {
        for (int ww = 0; ww <= 99; ww++) {
            group(YARD, 50000 + ww, ww >= 1 && ww <= 30);
            group(YARD, 51000 + ww, ww >= 1 && ww <= 30);
        }
        for (int k = 2; k <= 9; k++) {
            group("Opppppppppp", 50000 + 1000 * k + 5, false);
        }
        group("O", 50001, true);
        group("O", 51030, true);
        C.due("wind makes 0 off", Checks.yard("Opl005l006l004").runScript(2, 5003090000L), 1);
        C.due("rain does not", Checks.yard("Opl005l006l004").runScript(2, 5100190000L), -1);
        C.due("rain makes 2 off", Checks.yard("Opl040l041l042l003").runScript(2, 5100290000L), 1);
        C.due("wind does not", Checks.yard("Opl040l041l042l003").runScript(2, 5000290000L), -1);
        C.due("its strength counts", Checks.yard("Opl040l041l042l003").runScript(2, 5100190000L), -1);
    }

    private static void mendCommand() {
        group(YARD, 60000, true);
        group(YARD, 61000, true);
        group(YARD, 62000, true);
        group(YARD, 63000, false);
        C.due("none is off then", Checks.yard(YARD).runScript(2, 6000090000L), -1);
        C.due("in that pile", Checks.yard(YARD).runScript(2, 6100090001L), 1);
    }

    private static void atLeastLogs() {
        group(YARD, 70000, true);
        group(YARD, 70004, true);
        group(YARD, 70005, true);
        group(YARD, 70006, false);
        group(YARD, 70099, false);
        group(YARD, 71001, true);
        group(YARD, 71002, false);
        group(YARD, 72000, true);
        group(YARD, 72001, false);
        group("Op" + "l050".repeat(24), 70024, true);
        group("Op" + "l050".repeat(24), 70025, false);
    }

    private static void isTheTop() {
        C.due("the top", Checks.yard(YARD).pileOf(0, 1), 4);
        group(YARD, 80040, true);
        group(YARD, 80020, false);
        group(YARD, 81050, true);
        group(YARD, 81040, false);
        group(YARD, 80050, false);
        group(YARD, 82000, false);
        group("Opl040", 80000, true);
        String full = "Op" + "l050".repeat(23) + "l000";
        group(full, 80230, true);
        group(full, 80240, false);
        group(full, 80220, false);
    }

    private static void atMostOff() {
        group(YARD, 90000, false);
        group(YARD, 90001, false);
        group(YARD, 90002, true);
        group(YARD, 90003, true);
        group(YARD, 90099, true);
        group(YARD, 91000, true);
        group(YARD, 92000, true);
    }

    private static void methodsThatThrow() {
        int[] fail = {13000, 19099, 23000, 30600, 40300, 43000, 41100, 50000, 50031, 51000, 51031, 63000};
        for (int one : fail) {
            group(YARD, one, false);
        }
        group("O", 10000, false);
        group("O", 20000, false);
        group("O", 30000, false);
        group("O", 40100, false);
        group("O", 60000, false);
    }

    private static void noPilesNoLogs() {
        for (int p = 3; p <= 9; p++) {
            for (int command : new int[] {1, 2, 6, 7, 9}) {
                group(YARD, 10000 * command + 1000 * p, false);
            }
            group(YARD, 40000 + 1000 * p, false);
            group(YARD, 40000 + 100 * p, false);
            group(YARD, 80000 + 1000 * p, false);
        }
        group(YARD, 93099, false);
        group("O", 70000, false);
        group("O", 80000, false);
        group("O", 90099, false);
        for (int ll : new int[] {6, 23, 24, 31, 99}) {
            group(YARD, 30000 + 100 * ll, false);
            group(YARD, 80000 + 10 * ll, false);
        }
        group("Oppl040d0", 81000, false);
        group("Oppl040k00", 80000, false);
    }

    private static void otherGroups() {
        for (int digit = 1; digit <= 9; digit++) {
            group(YARD, 10005 + 100 * digit, false);
            group(YARD, 21000 + 100 * digit, false);
            group(YARD, 21000 + 10 * digit, false);
            group(YARD, 21000 + digit, false);
            group(YARD, 30100 + 10 * digit, false);
            group(YARD, 30100 + digit, false);
            group(YARD, 40100 + 10 * digit, false);
            group(YARD, 40100 + digit, false);
            group(YARD, 50005 + 100 * digit, false);
            group(YARD, 51005 + 100 * digit, false);
            group(YARD, 60000 + 100 * digit, false);
            group(YARD, 60000 + 10 * digit, false);
            group(YARD, 60000 + digit, false);
            group(YARD, 70001 + 100 * digit, false);
            group(YARD, 80040 + digit, false);
            group(YARD, 90005 + 100 * digit, false);
        }
        for (int other : new int[] {0, 1, 1000, 5005, 9999}) {
            group(YARD, other, false);
        }
    }

    // ---- what a script is refused for

    private static void refusals() {
        C.sentence("27: n: number of commands, 1 to 3; Throws IllegalArgumentException if n is out of range",
                ScriptsEdgesTest::nOutOfRange);
        C.sentence("27: or if script is negative", ScriptsEdgesTest::negativeScript);
        C.sentence("27: or has more than 5 * n digits", ScriptsEdgesTest::tooManyDigits);
        C.sentence("27: A call that throws an exception changes nothing.", ScriptsEdgesTest::refusedScript);
    }

    private static void nOutOfRange() {
        WoodPiles x = Checks.yard("Opl040");
        for (int n : new int[] {0, -1, 4, 5, Integer.MIN_VALUE, Integer.MAX_VALUE}) {
            C.badArgument("n of " + n, () -> x.runScript(n, 70001));
            C.badArgument("n of " + n + ", without a digit", () -> x.runScript(n, 0));
            C.badArgument("n of " + n + ", negative", () -> x.runScript(n, -1));
        }
    }

    private static void negativeScript() {
        WoodPiles x = Checks.yard("Opl040");
        for (int n = 1; n <= 3; n++) {
            final int commands = n;
            for (long script : new long[] {-1, -70001, Integer.MIN_VALUE, Long.MIN_VALUE}) {
                C.badArgument("n of " + n + ", " + script, () -> x.runScript(commands, script));
            }
        }
    }

    private static void tooManyDigits() {
        WoodPiles x = Checks.yard("Opl040");
        long least = 1;
        for (int n = 1; n <= 3; n++) {
            final int commands = n;
            least *= 100000;
            long tooMany = least;
            C.due("the most digits for " + n, x.runScript(n, tooMany - 1), 0);
            C.badArgument("a digit more for " + n, () -> x.runScript(commands, tooMany));
            C.badArgument("the largest for " + n, () -> x.runScript(commands, Long.MAX_VALUE));
        }
        C.badArgument("a good command, and one digit before it", () -> x.runScript(1, 170001));
        C.due("the greatest int fits in two", x.runScript(2, Integer.MAX_VALUE), 0);
        C.badArgument("2 to the 32nd and a good command", () -> x.runScript(1, 4294967296L + 70001));
    }

    private static void refusedScript() {
        WoodPiles x = Checks.yard("Opl040");
        x.set(50);
        C.refused("n of 4", x, IllegalArgumentException.class, () -> x.runScript(4, 20000));
        C.refused("six digits", x, IllegalArgumentException.class, () -> x.runScript(1, 120000));
        C.due("the states that are remembered", x.undo(), 0);
    }

    // ---- simulations

    private static void promise28() {
        C.sentence("28: Simulates m turns on a copy of the state.", ScriptsEdgesTest::simulatesOnACopy);
        C.sentence("28: A long x starts as the seed.", ScriptsEdgesTest::anySeed);
        C.sentence("28: m: number of turns, 1 to 60", ScriptsEdgesTest::oneToSixty);
        C.sentence("28: Throws IllegalArgumentException if m is out of range", ScriptsEdgesTest::turnsRefused);
        C.sentence("28: Returns 10000 * (the logs that lie in piles at the end) + (the lifts in the turns)",
                ScriptsEdgesTest::logsAndLifts);
        C.sentence("28: (the lifts in the turns alone)", ScriptsEdgesTest::liftsInTheTurns);
        C.sentence("28: Each turn first replaces x (with long overflow); By r % 16", ScriptsEdgesTest::asTheMethodsDo);
    }

    private static void simulatesOnACopy() {
        WoodPiles x = Checks.yard(YARD);
        x.set(50);
        String before = Checks.looks(x);
        int first = x.simulate(77, 60);
        C.due("the state", Checks.looks(x), before);
        C.due("the same again", x.simulate(77, 60), first);
        C.due("only the action of before is remembered", x.undo(), 0);
        C.badState("nothing is saved", () -> x.restore(1));
    }

    private static void anySeed() {
        long[] seeds = {0, 1, -1, Long.MIN_VALUE, Long.MAX_VALUE, Integer.MIN_VALUE, Integer.MAX_VALUE, 1L << 32, 1L << 33,
            6364136223846793005L, -1442695040888963407L};
        for (long seed : seeds) {
            for (int m : new int[] {1, 2, 30, 60}) {
                sameAsMethods("Oppl040l112", seed, m);
            }
        }
    }

    private static void oneToSixty() {
        for (int m = 1; m <= 60; m++) {
            sameAsMethods("Oppppl040l141", 5 + m, m);
        }
    }

    private static void turnsRefused() {
        WoodPiles x = Checks.yard("Opl040");
        for (int m : new int[] {0, -1, 61, 62, Integer.MIN_VALUE, Integer.MAX_VALUE}) {
            C.refused("m of " + m, x, IllegalArgumentException.class, () -> x.simulate(1, m));
        }
    }

    private static void logsAndLifts() {
        C.due("no log, no lift", Checks.yard("O").simulate(seedOf(9, -1), 1), 0);
        C.due("two logs, no lift", Checks.yard("Opl040l041").simulate(seedOf(10, -1), 1), 20000);
        C.due("24 logs, no lift", Checks.yard("Op" + "l050".repeat(24)).simulate(seedOf(0, -1), 1), 240000);
        C.due("a log more, a lift", Checks.yard("Oppppl050l150l250l350").simulate(seedOf(3, -1), 1), 50001);
        C.due("the last log burns, no lift", Checks.yard("Oppppl050l150l250l350").simulate(seedOf(6, -1), 1), 30000);
    }

    private static void liftsInTheTurns() {
        WoodPiles x = Checks.yard("Op" + "l050".repeat(24));
        C.due("lifts of before", x.about(5) > 23, true);
        C.due("none in the turn", x.simulate(seedOf(0, -1), 1), 240000);
        WoodPiles y = Checks.yard("Oppppl050l150l250l350");
        y.mend(0);
        y.log(0, 60);
        y.log(1, 60);
        y.log(2, 60);
        y.log(3, 60);
        C.due("four lifts of before", y.about(5), 4);
        C.due("one in the turn", y.simulate(seedOf(13, -1), 1), 80001);
    }

    // ---- the turns, one by one

    private static long next(long x) {
        return x * 6364136223846793005L + 1442695040888963407L;
    }

    private static int partOf(long x) {
        return (int) (x >>> 33);
    }

    /** A seed whose first turn has that r % 16, and q % 4 as p if that is not -1. */
    private static long seedOf(int kind, int p) {
        long seed = 1;
        for (int i = 0; i < 100000; i++) {
            int r = partOf(next(seed));
            if (r % 16 == kind && (p == -1 || r / 16 % 4 == p)) {
                return seed;
            }
            seed++;
        }
        throw new IllegalStateException("no seed of the kind " + kind);
    }

    private static void turns() {
        C.sentence("28: 0: pile().", () -> kind(0));
        C.sentence("28: 1 to 5: log(q % 4, q / 4 % 100).", ScriptsEdgesTest::logTurns);
        C.sentence("28: 6 and 7: draw(q % 4).", ScriptsEdgesTest::drawTurns);
        C.sentence("28: 8: take(q % 24).", () -> kind(8));
        C.sentence("28: 9: join(q % 4, q / 4 % 4).", () -> kind(9));
        C.sentence("28: 10: cover(q % 4, q / 4 % 2 is 1).", () -> kind(10));
        C.sentence("28: 11: wind(1 + q % 30).", () -> kind(11));
        C.sentence("28: 12: rain(1 + q % 30).", () -> kind(12));
        C.sentence("28: 13: mend(q % 4).", () -> kind(13));
        C.sentence("28: Otherwise: nights(1 + q % 3).", ScriptsEdgesTest::nightTurns);
        C.sentence("28: What would throw an exception is left out.", ScriptsEdgesTest::leftOutTurns);
    }

    private static void asTheMethodsDo() {
        String[] yards = {"O", "Opp", YARD, "Oppppl350l340l330l320l310l250l245l235l225l120l118l116l099l098l097r20",
            "Oppppl010l030l020l115l135l125l212l232l222l318l338l328c0+c2+"};
        for (String text : yards) {
            for (int i = 0; i < 150; i++) {
                sameAsMethods(text, next(next(i * 0x9E3779B97F4A7C15L)), 1 + i % 60);
            }
        }
    }

    /** The answer is the one that calls of the methods lead to, turn by turn, on a yard of the same text. */
    private static void sameAsMethods(String text, long seed, int m) {
        WoodPiles y = Checks.yard(text);
        int before = y.about(5);
        long x = seed;
        for (int i = 0; i < m; i++) {
            x = next(x);
            int r = partOf(x);
            Checks.outcome(() -> turn(y, r % 16, r / 16));
        }
        C.due(text + ": simulate(" + seed + ", " + m + ")", Checks.yard(text).simulate(seed, m),
                10000 * y.about(2) + y.about(5) - before);
    }

    private static int turn(WoodPiles y, int kind, int q) {
        return switch (kind) {
            case 0 -> y.pile();
            case 1, 2, 3, 4, 5 -> y.log(q % 4, q / 4 % 100);
            case 6, 7 -> y.draw(q % 4);
            case 8 -> y.take(q % 24);
            case 9 -> y.join(q % 4, q / 4 % 4);
            case 10 -> y.cover(q % 4, q / 4 % 2 == 1);
            case 11 -> y.wind(1 + q % 30);
            case 12 -> y.rain(1 + q % 30);
            case 13 -> y.mend(q % 4);
            default -> y.nights(1 + q % 3);
        };
    }

    /** Many simulations that begin with a turn of that kind, so that what it does shows in those behind it. */
    private static void kind(int kind) {
        String[] yards = {"Opp", "Oppppl350l340l330l320l310l250l245l235l225l120l118l116l099l098l097r20",
            "Oppppl040l041l042l003l140l141l142l103l240l241l242l203c0+c3+"};
        int found = 0;
        for (long seed = 0; found < 120; seed++) {
            if (partOf(next(seed)) % 16 == kind) {
                sameAsMethods(yards[found % yards.length], seed, 1 + found % 20);
                found++;
            }
        }
    }

    private static void logTurns() {
        for (int kind = 1; kind <= 5; kind++) {
            C.due("the kind " + kind, Checks.yard("Opppp").simulate(seedOf(kind, -1), 1), 10000);
            kind(kind);
        }
        for (int p = 0; p < 4; p++) {
            C.due("into pile " + p, Checks.yard("Opppp".substring(0, 1 + p)).simulate(seedOf(1, p), 1), 0);
            C.due("into pile " + p, Checks.yard("Opppp".substring(0, 2 + p)).simulate(seedOf(1, p), 1), 10000);
        }
    }

    private static void drawTurns() {
        for (int kind = 6; kind <= 7; kind++) {
            for (int p = 0; p < 4; p++) {
                WoodPiles x = Checks.yard("Opppp");
                x.log(p, 50);
                C.due("of pile " + p, x.simulate(seedOf(kind, p), 1), 0);
                C.due("of an empty one", x.simulate(seedOf(kind, (p + 1) % 4), 1), 10000);
            }
            kind(kind);
        }
    }

    private static void nightTurns() {
        for (int kind = 14; kind <= 15; kind++) {
            long seed = seedOf(kind, -1);
            int nights = 1 + partOf(next(seed)) / 16 % 3;
            C.due("nights", Checks.yard("Op" + "l050".repeat(3)).simulate(seed, 1) / 10000, 3 - nights);
            kind(kind);
        }
    }

    private static void leftOutTurns() {
        C.due("a fifth pile, then the rest", Checks.yard("Oppppl040").simulate(seedOf(0, -1), 1), 10000);
        C.due("a log in no pile", Checks.yard("O").simulate(seedOf(1, -1), 1), 0);
        C.due("a draw of no pile", Checks.yard("O").simulate(seedOf(6, -1), 1), 0);
        C.due("a 25th log", Checks.yard("Opppp" + "l050".repeat(24)).simulate(seedOf(1, -1), 1), 240000);
        C.due("a log that does not exist", Checks.yard("O").simulate(seedOf(8, -1), 1), 0);
        C.due("a join of no piles", Checks.yard("O").simulate(seedOf(9, -1), 1), 0);
        C.due("a mend of no pile", Checks.yard("O").simulate(seedOf(13, -1), 1), 0);
        for (long seed = 0; seed < 50; seed++) {
            sameAsMethods("O", seed, 60);
        }
    }
}
