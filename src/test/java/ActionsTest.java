/** Promises 10 to 21: the actions, and what takes them back. */
final class ActionsTest {
    private static final Checks C = new Checks();

    public static void main(String[] args) {
        promise10Pile();
        promise11Log();
        promise11Full();
        promise12Draw();
        promise13Take();
        promise14Join();
        promise15Cover();
        promise16Wind();
        promise17Rain();
        promise18Mend();
        promise19Nights();
        promise20Set();
        promise21Undo();
        promise21EveryAction();
        promise21NoAction();
        C.end("ActionsTest");
    }

    private static void promise10Pile() {
        WoodPiles x = new WoodPiles();
        for (int p = 0; p < 4; p++) {
            C.due("pile()", x.pile(), p);
            C.due("empty", x.pileOf(p, 0), 0);
            C.due("not covered", x.pileOf(p, 3), 0);
        }
        C.badState("pile 5", x::pile);
        C.due("piles", x.about(0), 4);
    }

    private static void promise11Log() {
        WoodPiles x = Checks.yard("Opp");
        C.due("log", x.log(0, 40), 0);
        C.due("no lift", x.about(5), 0);
        C.due("log", x.log(1, 0), 1);
        C.due("log", x.log(0, 99), 2);
        C.due("a lift", x.about(5), 1);
        C.due("pile 0", Checks.shape(x, 0), "0:40(2:99 -)");
        C.due("as damp as the top", x.log(0, 40), 3);
        C.due("pile 0", Checks.shape(x, 0), "0:40(3:40 2:99)");
        C.due("drier", x.log(0, 39), 4);
        C.due("pile 0", Checks.shape(x, 0), "4:39(0:40(3:40 2:99) -)");
        x.log(0, 41);
        C.due("pile 0", Checks.shape(x, 0), "4:39(5:41 0:40(3:40 2:99))");
        // 6 goes down on the right of 4: against 0, then against 2
        x.log(0, 50);
        C.due("pile 0", Checks.shape(x, 0), "4:39(0:40(6:50(2:99 -) 3:40) 5:41)");
        C.due("lifts", x.about(5), 1 + 1 + 1 + 1 + 3);
        C.due("pile 1", Checks.shape(x, 1), "1:0");
        C.outOfBounds("log(2)", () -> x.log(2, 5));
        C.outOfBounds("log(-1)", () -> x.log(-1, 5));
        C.outOfBounds("log(2, 100)", () -> x.log(2, 100));
        C.badArgument("log(0, 100)", () -> x.log(0, 100));
        C.badArgument("log(0, -1)", () -> x.log(0, -1));
        C.due("came", x.about(1), 7);
    }

    private static void promise11Full() {
        WoodPiles x = Checks.yard("Op");
        for (int l = 0; l < 24; l++) {
            C.due("log", x.log(0, l * 4 % 100), l);
        }
        C.badState("log 25", () -> x.log(0, 5));
        C.badArgument("log 25, too wet", () -> x.log(0, 100));
        C.outOfBounds("log 25, no pile", () -> x.log(1, 100));
        x.draw(0);
        x.take(23);
        C.badState("24 logs came ever", () -> x.log(0, 5));
    }

    private static void promise12Draw() {
        WoodPiles x = Checks.yard("Oppl040l041l112l003");
        C.due("shape", Checks.shape(x, 0), "3:3(0:40(1:41 -) -)");
        C.outOfBounds("draw(2)", () -> x.draw(2));
        C.outOfBounds("draw(-1)", () -> x.draw(-1));
        C.due("draw", x.draw(0), 0);
        C.due("heat", x.about(6), 97);
        C.due("shape", Checks.shape(x, 0), "0:40(1:41 -)");
        C.due("draw at the setting", x.draw(0), 0);
        C.due("heat", x.about(6), 157);
        C.due("draw above the setting", x.draw(0), 0);
        C.due("heat", x.about(6), 157);
        C.due("smoked", x.about(7), 1);
        C.due("empty", x.draw(0), 1);
        C.due("empty", x.draw(0), 1);
        C.due("refused", x.about(9), 2);
        C.due("burnt", x.about(3), 3);
        WoodPiles y = Checks.yard("Oppl010l010l008l009l007l150r29");
        C.due("off", y.draw(0), 2);
        C.due("refused", y.about(9), 1);
        C.due("nothing drawn", y.pileOf(0, 0), 5);
        C.due("the other one", y.draw(1), 0);
        y.mend(0);
        C.due("mended", y.draw(0), 0);
        WoodPiles z = Checks.yard("Opl000");
        z.set(0);
        C.due("damp 0", z.draw(0), 0);
        C.due("heat 100", z.about(6), 100);
    }

    private static void promise13Take() {
        WoodPiles x = Checks.yard("Opl040l099l040l039l041l050");
        C.due("shape", Checks.shape(x, 0), "3:39(0:40(5:50(1:99 -) 2:40) 4:41)");
        C.outOfBounds("take(6)", () -> x.take(6));
        C.outOfBounds("take(-1)", () -> x.take(-1));
        C.outOfBounds("take(24)", () -> x.take(24));
        int before = x.about(5);
        C.due("take 0: 2 comes ahead of 5", x.take(0), 1);
        C.due("shape", Checks.shape(x, 0), "3:39(2:40(5:50(1:99 -) -) 4:41)");
        C.due("lifts", x.about(5), before + 1);
        C.due("taken out", x.about(4), 1);
        C.due("burnt", x.about(3), 0);
        C.due("heat", x.about(6), 0);
        C.outOfBounds("take twice", () -> x.take(0));
        C.due("on the right", x.take(4), 0);
        C.due("shape", Checks.shape(x, 0), "3:39(2:40(5:50(1:99 -) -) -)");
        C.due("with one under it", x.take(5), 0);
        C.due("shape", Checks.shape(x, 0), "3:39(2:40(1:99 -) -)");
        C.due("the log above", x.logOf(1, 3), 2);
        C.due("the top", x.take(3), 0);
        C.due("shape", Checks.shape(x, 0), "2:40(1:99 -)");
        C.due("the new top", x.logOf(2, 3), -1);
        x.draw(0);
        C.outOfBounds("one that was burnt", () -> x.take(2));
        C.due("the last", x.take(1), 0);
        C.due("empty", x.pileOf(0, 1), -1);
        WoodPiles y = Checks.yard("Opl010l010l008l009l007r29");
        C.due("from a pile that is off", y.take(2), 1);
        C.due("shape", Checks.shape(y, 0), "4:36(3:18(0:19(1:19 -) -) -)");
    }

    private static void promise14Join() {
        WoodPiles x = Checks.yard("Opppl040l099l041l112l130l150c1+");
        C.due("pile 0", Checks.shape(x, 0), "0:40(2:41 1:99)");
        C.due("pile 1", Checks.shape(x, 1), "3:12(5:50 4:30)");
        C.outOfBounds("join(0, 3)", () -> x.join(0, 3));
        C.outOfBounds("join(3, 0)", () -> x.join(3, 0));
        C.outOfBounds("join(-1, 0)", () -> x.join(-1, 0));
        C.outOfBounds("join(3, 3)", () -> x.join(3, 3));
        C.badArgument("join(0, 0)", () -> x.join(0, 0));
        C.badArgument("join(2, 2)", () -> x.join(2, 2));
        int before = x.about(5);
        // 3 ahead of 0; then 4, on its right, ahead of 0; 4 has nothing on its right
        C.due("join", x.join(0, 1), 2);
        C.due("lifts", x.about(5), before + 2);
        C.due("pile 0", Checks.shape(x, 0), "3:12(4:30(0:40(2:41 1:99) -) 5:50)");
        C.due("pile 1", Checks.shape(x, 1), "-");
        C.due("the covers stay", x.pileOf(0, 3) * 10 + x.pileOf(1, 3), 1);
        C.due("a log's pile", x.logOf(5, 1), 0);
        C.due("join with an empty one", x.join(2, 0), 0);
        C.due("pile 2", Checks.shape(x, 2), "3:12(4:30(0:40(2:41 1:99) -) 5:50)");
        C.due("pile 0", x.pileOf(0, 0), 0);
        C.due("join an empty one", x.join(2, 0), 0);
        C.due("join empty ones", x.join(0, 1), 0);
        C.due("pile 2", x.pileOf(2, 0), 6);
        WoodPiles y = Checks.yard("Oppl010l110");
        C.due("as damp", y.join(1, 0), 1);
        C.due("the lower number", Checks.shape(y, 1), "0:10(1:10 -)");
    }

    private static void promise15Cover() {
        WoodPiles x = Checks.yard("Oppl040l140");
        C.outOfBounds("cover(2)", () -> x.cover(2, true));
        C.outOfBounds("cover(-1)", () -> x.cover(-1, false));
        C.due("uncover one that is not", x.cover(0, false), 0);
        C.due("cover", x.cover(0, true), 0);
        C.due("covered", x.pileOf(0, 3), 1);
        C.due("the other one", x.pileOf(1, 3), 0);
        C.due("cover again", x.cover(0, true), 1);
        x.rain(10);
        C.due("no rain on it", x.logOf(0, 0), 40);
        C.due("rain on the other one", x.logOf(1, 0), 50);
        C.due("uncover", x.cover(0, false), 1);
        C.due("uncovered", x.pileOf(0, 3), 0);
    }

    private static void promise16Wind() {
        WoodPiles x = Checks.yard("Oppl040l041l042l003l180l181l182l150c1+");
        C.due("pile 0", Checks.shape(x, 0), "3:3(0:40(2:42 1:41) -)");
        C.badArgument("wind(0)", () -> x.wind(0));
        C.badArgument("wind(31)", () -> x.wind(31));
        C.badArgument("wind(-1)", () -> x.wind(-1));
        int lifts = x.about(5);
        C.due("wind(7)", x.wind(7), 0 + 33 + 39 + 38 + 79 + 80 + 81 + 49);
        C.due("pile 0", Checks.shape(x, 0), "3:0(0:33(2:39 1:38) -)");
        C.due("pile 1", Checks.shape(x, 1), "7:49(4:79(6:81 5:80) -)");
        C.due("wind(3), too weak for the covered one", x.wind(3), 0 + 30 + 38 + 37 + 79 + 80 + 81 + 49);
        C.due("wind(30)", x.wind(30), 0 + 0 + 23 + 22 + 72 + 73 + 74 + 42);
        C.due("lifts", x.about(5), lifts);
        x.wind(30);
        // all of pile 0 below 8: then 1 and 2 are as dry as 0
        x.wind(30);
        C.due("none below 0", Checks.shape(x, 0), "3:0(0:0(2:0 1:0) -)");
        C.due("0 lies under 3, as dry as that", x.pileOf(0, 4), 1);
        C.due("wind on none", new WoodPiles().wind(30), 0);
    }

    private static void promise17Rain() {
        WoodPiles x = Checks.yard("Oppl040l041l042l003l180l181l182l150c1+");
        C.badArgument("rain(0)", () -> x.rain(0));
        C.badArgument("rain(31)", () -> x.rain(31));
        C.badArgument("rain(min)", () -> x.rain(Integer.MIN_VALUE));
        int lifts = x.about(5);
        C.due("rain(2)", x.rain(2), 1);
        C.due("pile 0", Checks.shape(x, 0), "3:5(0:42(2:42 1:41) -)");
        C.due("pile 1", Checks.shape(x, 1), "7:50(4:80(6:82 5:81) -)");
        C.due("rain(30)", x.rain(30), 2);
        C.due("pile 0", Checks.shape(x, 0), "3:35(0:72(2:52 1:51) -)");
        C.due("lifts", x.about(5), lifts);
        C.due("uncover", x.cover(1, false), 1);
        C.due("rain(29)", x.rain(29), 4);
        C.due("none above 99", Checks.shape(x, 1), "7:79(4:99(6:91 5:90) -)");
        C.due("pile 0", Checks.shape(x, 0), "3:64(0:99(2:61 1:60) -)");
        C.due("off", x.pileOf(0, 4), 2);
        C.due("off", x.pileOf(1, 4), 2);
        C.due("a log under one that it does not come ahead of", x.logOf(0, 3), 3);
        C.due("rain on none", new WoodPiles().rain(30), 0);
    }

    private static void promise18Mend() {
        WoodPiles x = Checks.yard("Oppl010l010l008l009l007l150r29");
        C.due("shape", Checks.shape(x, 0), "4:36(2:37(3:18 0:19(1:19 -)) -)");
        C.outOfBounds("mend(2)", () -> x.mend(2));
        C.outOfBounds("mend(-1)", () -> x.mend(-1));
        int before = x.about(5);
        // 0:19, 1 under it, 2:37 under 0 (1 on the right), 3:18 over 0, 4:36 under 3 (0 on the right)
        C.due("mend", x.mend(0), 4);
        C.due("shape", Checks.shape(x, 0), "3:18(4:36 0:19(2:37 1:19))");
        C.due("lifts", x.about(5), before + 4);
        C.due("not off", x.pileOf(0, 4), 0);
        C.due("taken out", x.about(4), 0);
        C.due("came", x.about(1), 6);
        C.due("the other pile", Checks.shape(x, 1), "5:79");
        C.due("mend an empty one", Checks.yard("Op").mend(0), 0);
        WoodPiles y = Checks.yard("Oppl030l120l010l140j01");
        C.due("not off", Checks.shape(y, 0), "2:10(1:20(3:40 -) 0:30)");
        C.due("mend", y.mend(0), 3);
        C.due("another shape", Checks.shape(y, 0), "2:10(3:40 1:20(0:30 -))");
    }

    private static void promise19Nights() {
        WoodPiles x = Checks.yard("Opppl020l130l220l245l060");
        C.badArgument("nights(0)", () -> x.nights(0));
        C.badArgument("nights(10)", () -> x.nights(10));
        C.badArgument("nights(-1)", () -> x.nights(-1));
        C.due("a night", x.nights(1), 80);
        C.outOfBounds("of the lowest pile", () -> x.logOf(0, 0));
        C.due("a night", x.nights(1), 80);
        C.outOfBounds("of pile 2", () -> x.logOf(2, 0));
        C.due("two nights, one of smoke", x.nights(2), 70);
        C.outOfBounds("45 smoked", () -> x.logOf(3, 0));
        C.due("smoked", x.about(7), 1);
        C.due("the last one, and a cold night", x.nights(9), 0);
        C.due("smoked", x.about(7), 2);
        C.due("cold", x.about(8), 8);
        C.due("burnt", x.about(3), 5);
        C.due("heat", x.about(6), 230);
        C.due("refused", x.about(9), 0);
        // a pile that is off is passed over, though its top is the driest
        WoodPiles y = Checks.yard("Oppl010l010l008l009l007l150r29");
        C.due("the damper one smokes", y.nights(2), 0);
        C.due("smoked, cold", y.about(7) * 10 + y.about(8), 11);
        C.due("the pile that is off", y.pileOf(0, 0), 5);
        // pile 1 holds the lower number, pile 0 is drawn
        WoodPiles z = Checks.yard("Oppl130l030");
        z.nights(1);
        C.due("the lowest pile, not the lowest log", z.pileOf(0, 0), 0);
        C.due("pile 1", z.pileOf(1, 0), 1);
        C.due("nights without piles", new WoodPiles().nights(3), 0);
    }

    private static void promise20Set() {
        WoodPiles x = Checks.yard("Opl050l050");
        C.due("set", x.set(50), 40);
        x.draw(0);
        C.due("heat at the new setting", x.about(6), 50);
        C.due("set", x.set(49), 50);
        x.draw(0);
        C.due("smoke at the new setting", x.about(7), 1);
        C.due("set", x.set(0), 49);
        C.due("set", x.set(99), 0);
        C.badArgument("set(100)", () -> x.set(100));
        C.badArgument("set(-1)", () -> x.set(-1));
        C.due("setting", x.about(11), 99);
    }

    private static void promise21Undo() {
        WoodPiles x = new WoodPiles();
        C.badState("nothing to undo", x::undo);
        for (int v = 0; v < 20; v++) {
            x.set(v);
        }
        for (int left = 13; left >= 0; left--) {
            C.due("undo", x.undo(), left);
            C.due("setting", x.about(11), left + 5);
        }
        C.badState("only 14 are remembered", x::undo);
        C.due("setting", x.about(11), 5);
        x.set(70);
        C.due("undo", x.undo(), 0);
        C.due("setting", x.about(11), 5);
        x.set(71);
        x.set(72);
        C.due("undo", x.undo(), 1);
        x.set(73);
        C.due("undo", x.undo(), 1);
        C.due("setting", x.about(11), 71);
    }

    private static void undone(String what, WoodPiles x, Checks.Call call) {
        String before = Checks.looks(x);
        call.answer();
        C.due("undo of " + what, x.undo(), 0);
        C.due("the state behind undo of " + what, Checks.looks(x), before);
    }

    private static void promise21EveryAction() {
        WoodPiles x = Checks.yard("Opppl040l041l042l003l180l181l182l150c1+");
        undone("pile", x, x::pile);
        undone("log", x, () -> x.log(0, 1));
        undone("draw", x, () -> x.draw(0));
        undone("draw refused", x, () -> x.draw(2));
        undone("take", x, () -> x.take(0));
        undone("join", x, () -> x.join(0, 1));
        undone("cover", x, () -> x.cover(1, false));
        undone("cover, nothing different", x, () -> x.cover(1, true));
        undone("wind", x, () -> x.wind(30));
        undone("rain", x, () -> x.rain(30));
        undone("mend", x, () -> x.mend(0));
        undone("nights", x, () -> x.nights(9));
        undone("set", x, () -> x.set(12));
    }

    private static void promise21NoAction() {
        WoodPiles x = Checks.yard("Opppl040l140");
        Checks.outcome(() -> x.log(3, 1));
        Checks.outcome(() -> x.draw(3));
        Checks.outcome(() -> x.take(9));
        Checks.outcome(() -> x.join(0, 0));
        Checks.outcome(() -> x.cover(3, true));
        Checks.outcome(() -> x.wind(0));
        Checks.outcome(() -> x.rain(0));
        Checks.outcome(() -> x.mend(3));
        Checks.outcome(() -> x.nights(0));
        Checks.outcome(() -> x.set(100));
        C.badState("refused calls are no actions", x::undo);
        x.append('O');
        x.save(0);
        x.harmless();
        x.fewestLifts();
        x.ifJoined(0, 1);
        x.ifMended(0, 1);
        x.drawsTill(0, 99);
        x.runScript(1, 11005);
        x.simulate(1, 5);
        C.badState("these are no actions", x::undo);
        x.pile();
        Checks.outcome(x::pile);
        C.due("the text is not taken back", x.undo(), 0);
        C.due("text", x.clearText(), 1);
        C.due("nor the slot", x.restore(0), 2);
    }
}
