/** Promises 27 and 28: scripts and simulations. */
final class ScriptsTest {
    private static final Checks C = new Checks();

    public static void main(String[] args) {
        promise27Arguments();
        promise27Groups();
        promise27Order();
        promise28Simulate();
        promise28Agrees();
        C.end("ScriptsTest");
    }

    private static void promise27Arguments() {
        WoodPiles x = Checks.yard("Opl010");
        C.badArgument("n 0", () -> x.runScript(0, 0));
        C.badArgument("n 4", () -> x.runScript(4, 0));
        C.badArgument("n min", () -> x.runScript(Integer.MIN_VALUE, 0));
        C.badArgument("negative", () -> x.runScript(1, -1));
        C.badArgument("negative", () -> x.runScript(3, Long.MIN_VALUE));
        C.badArgument("6 digits", () -> x.runScript(1, 100000));
        C.badArgument("11 digits", () -> x.runScript(2, 10000000000L));
        C.badArgument("16 digits", () -> x.runScript(3, 1000000000000000L));
        C.badArgument("max", () -> x.runScript(3, Long.MAX_VALUE));
        C.due("5 digits", x.runScript(1, 99999), 0);
        C.due("10 digits", x.runScript(2, 9999999999L), 0);
        C.due("15 digits", x.runScript(3, 999999999999999L), 0);
        C.due("0", x.runScript(1, 0), 0);
        C.due("zeros before it", x.runScript(2, 20000), 0);
    }

    private static void group(WoodPiles x, int group, boolean succeeds) {
        C.due("group " + group, x.runScript(1, group), succeeds ? -1 : 0);
    }

    private static void promise27Groups() {
        WoodPiles x = Checks.yard("Opppl010l010l008l009l007l150r29");
        String before = Checks.looks(x);
        int[] succeed = {10000, 10099, 12050, 21000, 30000, 30400, 30500, 40100, 42000, 50001, 50030, 51001, 51030, 60000,
            62000, 70005, 70000, 72000, 80040, 81050, 90002, 90099, 91000, 92000};
        int[] fail = {13000, 19000, 10100, 10900, 20000, 22000, 23000, 21100, 21010, 21001, 30600, 32400, 39900, 30010, 30001,
            40000, 40300, 43000, 40110, 40101, 50000, 51000, 50031, 51099, 52001, 59001, 50101, 51901, 63000, 60100, 60010,
            60001, 70006, 71002, 73000, 70105, 79000, 80030, 80041, 81040, 82000, 80240, 83000, 83050, 80990, 90001, 90102,
            93000, 99099, 0, 5, 1000, 9999};
        for (int one : succeed) {
            group(x, one, true);
        }
        for (int one : fail) {
            group(x, one, false);
        }
        C.due("nothing is changed", Checks.looks(x), before);
        x.take(5);
        group(x, 30500, false);
        group(x, 81050, false);
        WoodPiles full = Checks.yard("Op");
        for (int l = 0; l < 24; l++) {
            full.log(0, 99 - l);
        }
        group(full, 10000, false);
        group(full, 32300, true);
        group(full, 70024, true);
        group(full, 70025, false);
        group(full, 80230, true);
        group(new WoodPiles(), 50030, true);
        group(new WoodPiles(), 70000, false);
        group(new WoodPiles(), 90000, false);
        group(new WoodPiles(), 80000, false);
    }

    private static void promise27Order() {
        WoodPiles x = Checks.yard("Oppl040");
        String before = Checks.looks(x);
        C.due("a log, its top, draw", x.runScript(3, 100108001020000L), -1);
        C.due("two draws", x.runScript(3, 200002000020000L), 1);
        C.due("a log, then at most 1", x.runScript(3, 100107000270003L), 2);
        C.due("the first fails", x.runScript(3, 210007000170003L), 0);
        C.due("stops there", x.runScript(2, 2000080000L), 1);
        C.due("join, wind, take", x.runScript(3, 410005003030000L), -1);
        C.due("join, draw of the empty one", x.runScript(2, 4100020000L), 1);
        C.due("rain does not make it off", x.runScript(2, 5103090000L), -1);
        WoodPiles y = Checks.yard("Opl040l041l042l003");
        C.due("rain makes one off", y.runScript(2, 5100290000L), 1);
        C.due("only one", y.runScript(2, 5100290001L), -1);
        C.due("mended", y.runScript(3, 510026000090000L), -1);
        C.due("a weaker rain", y.runScript(2, 5100190000L), -1);
        C.due("wind makes none off", y.runScript(2, 5000290000L), -1);
        C.due("nothing is changed", Checks.looks(x), before);
        C.badState("nor remembered", x::undo);
    }

    private static void promise28Simulate() {
        WoodPiles x = Checks.yard("Opl010");
        C.badArgument("m 0", () -> x.simulate(1, 0));
        C.badArgument("m 61", () -> x.simulate(1, 61));
        C.badArgument("m -1", () -> x.simulate(1, -1));
        String before = Checks.looks(x);
        x.simulate(5, 60);
        C.due("nothing is changed", Checks.looks(x), before);
        C.badState("nor remembered", x::undo);
        C.due("the same again", x.simulate(5, 60), x.simulate(5, 60));
    }

    /** The lifts before the turns do not count. */
    private static void promise28Agrees() {
        String[] yards = {"O", "Op", "Opppp", "Oppl040l041l042l003l180l181l182l150c1+",
            "Opppl010l010l008l009l007l150r29", "Oppppl040l140l240l340l020l120l220l320"};
        for (String text : yards) {
            WoodPiles x = Checks.yard(text);
            Model model = Model.of(x);
            for (long seed = -300; seed < 300; seed++) {
                int m = (int) (1 + Math.abs(seed) % 60);
                long stretched = seed * 0x9E3779B97F4A7C15L;
                C.due(text + " simulate(" + stretched + ", " + m + ")", x.simulate(stretched, m),
                        model.simulate(stretched, m));
            }
            for (long seed : new long[] {0, 1, -1, Long.MIN_VALUE, Long.MAX_VALUE}) {
                C.due(text + " simulate(" + seed + ")", x.simulate(seed, 60), model.simulate(seed, 60));
            }
        }
    }
}
