/** Promises 29 and 30, sentence by sentence, at the edges that they name. */
final class SlotsEdgesTest {
    private static final Checks C = new Checks();
    private static final String YARD = "Opppl040l041l042l003l180l112c1+r02";
    private static final int[] NO_SLOTS = {-1, 2, 3, Integer.MIN_VALUE, Integer.MAX_VALUE};

    public static void main(String[] args) {
        promise29();
        promise30();
        promise30Refusals();
        C.end("SlotsEdgesTest");
    }

    // ---- save

    private static void promise29() {
        C.sentence("29: Stores the present state in a save slot.", SlotsEdgesTest::presentState);
        C.sentence("29: Stores the present state in a save slot. (over the one of before)", SlotsEdgesTest::savedOver);
        C.sentence("29: slot: 0 or 1", SlotsEdgesTest::twoSlots);
        C.sentence("29: Returns the logs that came so far.", SlotsEdgesTest::cameSoFar);
        C.sentence("29: Throws IndexOutOfBoundsException if there is no such save slot", SlotsEdgesTest::noSlotToSave);
        C.sentence("29: save is no action, and forgets nothing", SlotsEdgesTest::saveForgetsNothing);
    }

    /** Changes whatever the state consists of. */
    private static void changeAll(WoodPiles x) {
        x.draw(0);
        x.draw(2);
        x.mend(0);
        x.nights(9);
        x.pile();
        x.log(3, 7);
        x.log(3, 8);
        x.take(6);
        x.join(0, 3);
        x.cover(0, true);
        x.cover(1, false);
        x.wind(9);
        x.rain(5);
        x.set(3);
    }

    private static void presentState() {
        WoodPiles x = Checks.yard(YARD);
        x.set(33);
        x.draw(2);
        String before = Checks.looks(x);
        x.save(0);
        changeAll(x);
        C.due("the state is another one", Checks.looks(x).equals(before), false);
        x.restore(0);
        C.due("the whole state", Checks.looks(x), before);
        C.due("a log that burnt is back", x.logOf(5, 0), 12);
    }

    private static void savedOver() {
        WoodPiles x = Checks.yard("Op");
        x.save(1);
        x.log(0, 1);
        x.save(1);
        x.log(0, 2);
        C.due("the later one", x.restore(1), 1);
    }

    private static void twoSlots() {
        WoodPiles x = Checks.yard("Op");
        x.save(0);
        x.log(0, 1);
        x.save(1);
        x.log(0, 2);
        C.due("slot 0", x.restore(0), 0);
        C.due("slot 1", x.restore(1), 1);
        C.due("slot 0 again", x.restore(0), 0);
        x.pile();
        x.save(0);
        C.due("slot 1 is another one", x.restore(1), 1);
        C.due("piles", x.about(0), 1);
    }

    private static void cameSoFar() {
        C.due("none", new WoodPiles().save(0), 0);
        WoodPiles x = Checks.yard("Op" + "l050".repeat(24));
        C.due("24", x.save(1), 24);
        x.draw(0);
        x.take(23);
        C.due("burnt and taken out too", x.save(0), 24);
    }

    private static void noSlotToSave() {
        WoodPiles x = Checks.yard("Opl040");
        for (int slot : NO_SLOTS) {
            C.refused("save(" + slot + ")", x, IndexOutOfBoundsException.class, () -> x.save(slot));
        }
        C.badState("nothing is saved in 0", () -> x.restore(0));
        C.badState("nothing is saved in 1", () -> x.restore(1));
    }

    private static void saveForgetsNothing() {
        WoodPiles x = Checks.yard("Op");
        x.log(0, 5);
        x.log(0, 6);
        x.save(0);
        C.due("undo", x.undo(), 1);
        x.save(0);
        C.due("undo", x.undo(), 0);
        C.badState("no save is taken back", x::undo);
        C.due("the slot is as it was saved last", x.restore(0), 1);
    }

    // ---- restore

    private static void promise30() {
        C.sentence("30: Replaces the state by the one in a save slot", SlotsEdgesTest::replaced);
        C.sentence("30: and forgets all remembered states", SlotsEdgesTest::forgetsAll);
        C.sentence("30: The save slot keeps it.", SlotsEdgesTest::slotKeepsIt);
        C.sentence("30: Returns the logs that came so far then.", SlotsEdgesTest::cameThen);
        C.sentence("30: the text stays", SlotsEdgesTest::textStays);
    }

    private static void replaced() {
        WoodPiles x = new WoodPiles();
        x.save(1);
        x.pile();
        x.pile();
        x.log(1, 5);
        changeSome(x);
        x.restore(1);
        C.due("as in a new object", Checks.looks(x), Checks.looks(new WoodPiles()));
        C.due("the first pile", x.pile(), 0);
        C.due("it is not covered", x.pileOf(0, 3), 0);
        C.due("the first log", x.log(0, 9), 0);
        C.dueShape(x, 0, "0:9");
    }

    private static void changeSome(WoodPiles x) {
        x.cover(0, true);
        x.log(0, 50);
        x.set(9);
        x.draw(0);
        x.draw(0);
        x.nights(2);
    }

    private static void forgetsAll() {
        WoodPiles x = Checks.yard("Op");
        for (int v = 0; v < 20; v++) {
            x.set(v);
        }
        x.save(0);
        x.set(50);
        x.restore(0);
        C.badState("undo", x::undo);
        x.set(51);
        C.due("undo of what came behind it", x.undo(), 0);
        C.due("the setting", x.about(11), 19);
    }

    private static void slotKeepsIt() {
        WoodPiles x = Checks.yard(YARD);
        String before = Checks.looks(x);
        x.save(1);
        for (int i = 0; i < 3; i++) {
            changeAll(x);
            x.restore(1);
            C.due("the time " + i, Checks.looks(x), before);
        }
    }

    private static void cameThen() {
        WoodPiles x = Checks.yard("Opl040l041");
        x.save(0);
        x.log(0, 1);
        C.due("fewer", x.restore(0), 2);
        C.due("about(1)", x.about(1), 2);
        x.draw(0);
        x.draw(0);
        x.save(1);
        C.due("those burnt too", x.restore(1), 2);
        x.restore(0);
        C.due("as many", x.restore(0), 2);
        C.due("none", noneCame(), 0);
    }

    private static int noneCame() {
        WoodPiles x = Checks.yard("Op");
        x.save(0);
        x.log(0, 1);
        return x.restore(0);
    }

    private static void textStays() {
        WoodPiles x = new WoodPiles();
        Checks.write(x, "Op");
        x.save(0);
        Checks.write(x, "p");
        x.restore(0);
        C.due("the text", x.append('p'), 4);
        C.due("load", x.load(), 0);
        C.due("piles", x.about(0), 3);
    }

    private static void promise30Refusals() {
        C.sentence("30: Throws IndexOutOfBoundsException if there is no such save slot", SlotsEdgesTest::noSlotToRestore);
        C.sentence("30: Throws IllegalStateException if nothing has been saved in it", SlotsEdgesTest::nothingSaved);
        C.sentence("30: since the last load", SlotsEdgesTest::sinceTheLastLoad);
        C.sentence("30: A call that throws an exception changes nothing.", SlotsEdgesTest::refusedRestore);
    }

    private static void noSlotToRestore() {
        WoodPiles x = Checks.yard("Opl040");
        for (int slot : NO_SLOTS) {
            C.refused("restore(" + slot + ")", x, IndexOutOfBoundsException.class, () -> x.restore(slot));
        }
        x.save(0);
        x.save(1);
        for (int slot : NO_SLOTS) {
            C.outOfBounds("restore(" + slot + "), with both filled", () -> x.restore(slot));
        }
    }

    private static void nothingSaved() {
        WoodPiles x = Checks.yard("Op");
        C.badState("slot 0", () -> x.restore(0));
        C.badState("slot 1", () -> x.restore(1));
        x.save(0);
        C.badState("slot 1, with slot 0 filled", () -> x.restore(1));
        WoodPiles y = Checks.yard("Op");
        y.save(1);
        C.badState("slot 0, with slot 1 filled", () -> y.restore(0));
        C.due("slot 1", y.restore(1), 0);
    }

    private static void sinceTheLastLoad() {
        WoodPiles x = new WoodPiles();
        Checks.write(x, "Op");
        x.save(0);
        x.save(1);
        C.due("before load", x.restore(0), 0);
        x.load();
        C.badState("slot 0 behind load", () -> x.restore(0));
        C.badState("slot 1 behind load", () -> x.restore(1));
        x.save(1);
        C.due("saved behind load", x.restore(1), 0);
        x.append('x');
        C.badState("a load that is refused", x::load);
        C.due("empties no slot", x.restore(1), 0);
    }

    private static void refusedRestore() {
        WoodPiles x = Checks.yard("Op");
        x.log(0, 5);
        x.log(0, 6);
        C.refused("an empty slot", x, IllegalStateException.class, () -> x.restore(0));
        C.refused("no slot", x, IndexOutOfBoundsException.class, () -> x.restore(2));
        C.due("the states that are remembered", x.undo(), 1);
    }
}
