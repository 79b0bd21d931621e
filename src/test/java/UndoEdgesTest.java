import java.util.ArrayList;
import java.util.List;

/** Promises 20 and 21 and the paragraphs ACTIONS AND UNDO and EXCEPTIONS, sentence by sentence, at their edges. */
final class UndoEdgesTest {
    private static final Checks C = new Checks();
    private static final String YARD = "Opppl040l041l042l003l180l112c1+";

    interface Use {
        void of(WoodPiles x);
    }

    public static void main(String[] args) {
        promise20();
        promise21();
        actions();
        exceptions();
        C.end("UndoEdgesTest");
    }

    // ---- set

    private static void promise20() {
        C.sentence("20: Changes setting 0.", UndoEdgesTest::changesTheSetting);
        C.sentence("20: v: 0 to 99", UndoEdgesTest::settingsAllowed);
        C.sentence("20: Returns the previous one.", UndoEdgesTest::previousSetting);
        C.sentence("20: Throws IllegalArgumentException if v is out of range", UndoEdgesTest::settingRefused);
    }

    private static void changesTheSetting() {
        WoodPiles x = Checks.yard("Opl041l041");
        x.set(41);
        C.due("the setting", x.about(11), 41);
        x.draw(0);
        C.due("41 burns", x.about(6), 59);
        x.set(40);
        C.due("the heat of before stays", x.about(6), 59);
        x.draw(0);
        C.due("41 smokes", x.about(7), 1);
        C.due("and gives no heat", x.about(6), 59);
    }

    private static void settingsAllowed() {
        WoodPiles x = new WoodPiles();
        for (int v = 0; v <= 99; v++) {
            x.set(v);
            C.due("the setting", x.about(11), v);
        }
    }

    private static void previousSetting() {
        WoodPiles x = new WoodPiles();
        C.due("the first one", x.set(0), 40);
        C.due("0", x.set(99), 0);
        C.due("99", x.set(99), 99);
        C.due("99 again", x.set(7), 99);
        x.undo();
        C.due("the one that came back", x.set(1), 99);
    }

    private static void settingRefused() {
        WoodPiles x = new WoodPiles();
        x.set(33);
        for (int v : new int[] {-1, 100, 101, Integer.MIN_VALUE, Integer.MAX_VALUE}) {
            C.refused("set(" + v + ")", x, IllegalArgumentException.class, () -> x.set(v));
        }
        C.due("only one action is remembered", x.undo(), 0);
    }

    // ---- undo

    private static void promise21() {
        C.sentence("21: Takes back the last action that is remembered.", UndoEdgesTest::takesBackTheLast);
        C.sentence("21: Returns how many states are still remembered.", UndoEdgesTest::statesStillRemembered);
        C.sentence("21: Throws IllegalStateException if none is remembered", UndoEdgesTest::noneRemembered);
        C.sentence("UNDO: Before each action, the state is remembered. (the whole state)", UndoEdgesTest::wholeState);
        C.sentence("UNDO: At most 14 states are remembered", UndoEdgesTest::atMost14);
        C.sentence("UNDO: when one more is remembered, the oldest one is forgotten", UndoEdgesTest::oldestIsForgotten);
        C.sentence("UNDO: the oldest one is forgotten, round and round", UndoEdgesTest::roundAndRound);
    }

    private static void takesBackTheLast() {
        WoodPiles x = Checks.yard("Op");
        x.log(0, 40);
        x.log(0, 12);
        C.due("undo", x.undo(), 1);
        C.dueShape(x, 0, "0:40");
        C.due("undo goes on", x.undo(), 0);
        C.dueShape(x, 0, "-");
        x.log(0, 77);
        C.dueShape(x, 0, "0:77");
        C.due("undo of the new one", x.undo(), 0);
        C.dueShape(x, 0, "-");
    }

    private static void statesStillRemembered() {
        WoodPiles x = new WoodPiles();
        for (int v = 0; v < 14; v++) {
            x.set(v);
        }
        for (int left = 13; left >= 7; left--) {
            C.due("undo", x.undo(), left);
        }
        x.pile();
        C.due("undo of one that came between", x.undo(), 7);
        for (int left = 6; left >= 0; left--) {
            C.due("undo", x.undo(), left);
        }
    }

    private static void noneRemembered() {
        WoodPiles x = new WoodPiles();
        C.refused("a new object", x, IllegalStateException.class, x::undo);
        x.set(7);
        x.undo();
        C.refused("all taken back", x, IllegalStateException.class, x::undo);
        C.refused("all taken back, again", x, IllegalStateException.class, x::undo);
        x.set(8);
        C.due("a new action is remembered", x.undo(), 0);
        C.due("the setting", x.about(11), 40);
    }

    private static void wholeState() {
        WoodPiles x = Checks.yard(YARD);
        x.draw(2);
        String before = Checks.looks(x);
        Runnable[] all = {x::pile, () -> x.log(2, 7), () -> x.draw(0), () -> x.draw(3), () -> x.take(4), () -> x.join(1, 0),
            () -> x.cover(1, false), () -> x.wind(30), () -> x.rain(29), () -> x.mend(1), () -> x.nights(9), () -> x.set(3)};
        for (Runnable each : all) {
            each.run();
        }
        C.due("the states that are remembered but one", x.undo(), 12);
        for (int left = 11; left >= 1; left--) {
            C.due("undo", x.undo(), left);
        }
        C.due("the whole state", Checks.looks(x), before);
    }

    private static void atMost14() {
        for (int actions = 1; actions <= 30; actions++) {
            WoodPiles x = new WoodPiles();
            for (int v = 0; v < actions; v++) {
                x.set(v);
            }
            int due = Math.min(14, actions);
            C.due("undo behind " + actions, x.undo(), due - 1);
            for (int i = 1; i < due; i++) {
                x.undo();
            }
            C.badState("undo once more behind " + actions, x::undo);
        }
    }

    private static void oldestIsForgotten() {
        WoodPiles x = new WoodPiles();
        for (int v = 0; v < 15; v++) {
            x.set(v);
        }
        for (int i = 0; i < 14; i++) {
            x.undo();
        }
        C.due("the setting behind the first action", x.about(11), 0);
        C.badState("the state before it is forgotten", x::undo);
        WoodPiles y = new WoodPiles();
        for (int v = 0; v < 14; v++) {
            y.set(v);
        }
        for (int i = 0; i < 14; i++) {
            y.undo();
        }
        C.due("with 14 none is forgotten", y.about(11), 40);
    }

    private static void roundAndRound() {
        WoodPiles x = new WoodPiles();
        List<Integer> due = new ArrayList<>();
        for (int i = 0; i < 100; i++) {
            due.add(x.about(11));
            x.set(i * 7 % 100);
            while (due.size() > 14) {
                due.remove(0);
            }
            for (int back = 0; i % 9 == 8 && back < 5; back++) {
                int setting = due.remove(due.size() - 1);
                C.due("states still remembered", x.undo(), due.size());
                C.due("the setting", x.about(11), setting);
            }
        }
    }

    // ---- what is an action

    private static void actions() {
        C.sentence("UNDO: Each call of one of them that does not throw an exception is an action", UndoEdgesTest::eachIsAnAction);
        C.sentence("UNDO: also if nothing becomes different", UndoEdgesTest::nothingDifferent);
        C.sentence("UNDO: (undo is none)", UndoEdgesTest::undoIsNone);
        C.sentence("UNDO: the state, which consists of everything but the text and the save slots",
                UndoEdgesTest::notTextAndSlots);
        C.sentence("UNDO: load and restore are not actions.", UndoEdgesTest::loadAndRestore);
        C.sentence("UNDO: a call that throws an exception is no action", UndoEdgesTest::refusedIsNone);
        C.sentence("UNDO: what is not in the section actions is no action", UndoEdgesTest::othersAreNone);
    }

    private static void remembered(String what, String text, Use use) {
        WoodPiles x = Checks.yard(text);
        String before = Checks.looks(x);
        use.of(x);
        C.due(what + ", undo", Checks.outcome(x::undo), "0");
        C.due(what + ", taken back", Checks.looks(x), before);
    }

    private static void eachIsAnAction() {
        remembered("pile", YARD, WoodPiles::pile);
        remembered("log", YARD, x -> x.log(0, 1));
        remembered("draw", YARD, x -> x.draw(0));
        remembered("take", YARD, x -> x.take(0));
        remembered("join", YARD, x -> x.join(1, 0));
        remembered("cover", YARD, x -> x.cover(0, true));
        remembered("uncover", YARD, x -> x.cover(1, false));
        remembered("wind", YARD, x -> x.wind(30));
        remembered("rain", YARD, x -> x.rain(30));
        remembered("mend", YARD, x -> x.mend(0));
        remembered("nights", YARD, x -> x.nights(9));
        remembered("set", YARD, x -> x.set(99));
    }

    private static void nothingDifferent() {
        remembered("draw of an empty pile", YARD, x -> x.draw(2));
        remembered("draw of a pile that is off", "Opl005l006l004w30", x -> x.draw(0));
        remembered("join with an empty pile", YARD, x -> x.join(0, 2));
        remembered("join of empty piles", "Opp", x -> x.join(0, 1));
        remembered("cover of one that is covered", YARD, x -> x.cover(1, true));
        remembered("uncovering of one that is not", YARD, x -> x.cover(0, false));
        remembered("wind too weak", "Opl040c0+", x -> x.wind(3));
        remembered("wind without logs", "Op", x -> x.wind(30));
        remembered("rain on a covered pile", "Opl040c0+", x -> x.rain(30));
        remembered("rain without piles", "O", x -> x.rain(1));
        remembered("mend of an empty pile", "Op", x -> x.mend(0));
        remembered("mend of one log", "Opl040", x -> x.mend(0));
        remembered("a cold night", "O", x -> x.nights(1));
        remembered("the same setting", "O", x -> x.set(40));
    }

    private static void undoIsNone() {
        WoodPiles x = new WoodPiles();
        x.set(1);
        x.set(2);
        x.set(3);
        C.due("undo", x.undo(), 2);
        C.due("undo takes no undo back", x.undo(), 1);
        C.due("the setting", x.about(11), 1);
        C.due("undo", x.undo(), 0);
        C.badState("no undo is remembered", x::undo);
    }

    private static void notTextAndSlots() {
        WoodPiles x = Checks.yard("Op");
        x.log(0, 5);
        Checks.write(x, "Op");
        x.save(1);
        x.log(0, 6);
        x.undo();
        x.undo();
        C.due("the text", x.append('p'), 3);
        C.due("slot 1", x.restore(1), 1);
        C.badState("slot 0", () -> x.restore(0));
        x.log(0, 9);
        x.clearText();
        x.save(0);
        x.undo();
        C.due("the text that was emptied", x.clearText(), 0);
        C.due("slot 0 that was filled", x.restore(0), 2);
    }

    private static void loadAndRestore() {
        WoodPiles x = Checks.yard("Op");
        x.log(0, 5);
        Checks.write(x, "Opp");
        x.load();
        C.badState("undo behind load", x::undo);
        C.due("piles", x.about(0), 2);
        x.save(0);
        x.log(0, 5);
        x.restore(0);
        C.badState("undo behind restore", x::undo);
        C.due("logs", x.about(1), 0);
    }

    private static void refusedIsNone() {
        WoodPiles x = Checks.yard("Oppppl040");
        x.set(50);
        for (Checks.Call call : refusedCalls(x)) {
            Checks.outcome(call);
        }
        C.due("the only action", x.undo(), 0);
        C.due("is taken back", x.about(11), 40);
    }

    private static void othersAreNone() {
        WoodPiles x = Checks.yard(YARD);
        x.set(50);
        x.append('O');
        x.errorPosition();
        x.about(5);
        x.pileOf(0, 0);
        x.logOf(0, 0);
        x.ranked(0, 0, 0);
        x.drawsTill(0, 99);
        x.ifJoined(0, 1);
        x.fewestLifts();
        x.ifMended(0, 1);
        x.harmless();
        x.runScript(3, 100012000030100L);
        x.simulate(1, 60);
        x.save(0);
        x.clearText();
        C.due("the only action", x.undo(), 0);
        C.due("is taken back", x.about(11), 40);
    }

    // ---- exceptions

    /** Calls that throw, of a yard with four piles, a log and no text. */
    private static List<Checks.Call> refusedCalls(WoodPiles x) {
        return List.of(() -> x.append(256), x::load, () -> x.about(12), () -> x.pileOf(4, 0), () -> x.pileOf(0, 7),
                () -> x.logOf(1, 0), () -> x.logOf(0, 7), () -> x.ranked(0, 1, 0), () -> x.ranked(0, 0, 2), x::pile,
                () -> x.log(4, 0), () -> x.log(0, 100), () -> x.draw(4), () -> x.take(1), () -> x.join(0, 4),
                () -> x.join(0, 0), () -> x.cover(4, true), () -> x.wind(31), () -> x.rain(31), () -> x.mend(4),
                () -> x.nights(10), () -> x.set(100), () -> x.drawsTill(4, 0), () -> x.drawsTill(0, 100),
                () -> x.ifJoined(4, 0), () -> x.ifJoined(0, 0), () -> x.ifMended(4, 0), () -> x.ifMended(0, 2),
                () -> x.runScript(4, 0), () -> x.runScript(1, 100000), () -> x.simulate(0, 61), () -> x.save(2),
                () -> x.restore(2), () -> x.restore(1));
    }

    private static void exceptions() {
        C.sentence("EXCEPTIONS: A call that throws an exception changes nothing.", UndoEdgesTest::refusedChangesNothing);
        C.sentence("EXCEPTIONS: a log that was burnt or taken out does not exist any more", UndoEdgesTest::goneLogs);
        C.sentence("An object is used for at most 512 calls after it has been made", UndoEdgesTest::all512Calls);
    }

    private static void refusedChangesNothing() {
        for (int i = 0; i < refusedCalls(new WoodPiles()).size(); i++) {
            WoodPiles x = Checks.yard("Oppppl040");
            x.save(0);
            x.set(50);
            String before = Checks.looks(x);
            String thrown = Checks.outcome(refusedCalls(x).get(i));
            C.due("the call " + i + " throws", thrown.endsWith("Exception"), true);
            C.due("the state behind the call " + i, Checks.looks(x), before);
            C.due("the text behind the call " + i, x.clearText(), 0);
            C.due("the states remembered behind the call " + i, x.undo(), 0);
            C.due("slot 0 behind the call " + i, x.restore(0), 1);
            C.badState("slot 1 behind the call " + i, () -> x.restore(1));
        }
    }

    private static void goneLogs() {
        WoodPiles x = Checks.yard("Opl040l041l042");
        x.draw(0);
        x.take(1);
        for (int l = 0; l < 2; l++) {
            final int log = l;
            C.outOfBounds("logOf(" + l + ")", () -> x.logOf(log, 0));
            C.outOfBounds("take(" + l + ")", () -> x.take(log));
            C.due("take in a script", x.runScript(1, 30000 + 100 * l), 0);
            C.due("the top in a script", x.runScript(1, 80000 + 10 * l), 0);
        }
        C.due("a rank less", Checks.outcome(() -> x.ranked(0, 1, 1)), "IndexOutOfBoundsException");
        C.due("log 2", x.logOf(2, 0), 42);
    }

    private static void all512Calls() {
        WoodPiles x = new WoodPiles();
        int setting = 40;
        for (int i = 0; i < 510; i++) {
            C.due("the call " + i, x.set(i % 100), setting);
            setting = i % 100;
        }
        C.due("the call before the last", x.undo(), 13);
        C.due("the last one", x.about(11), 8);
    }
}
