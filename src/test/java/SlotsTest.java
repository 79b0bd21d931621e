/** Promises 29 and 30: the save slots. */
final class SlotsTest {
    private static final Checks C = new Checks();

    public static void main(String[] args) {
        promise29Save();
        promise30Restore();
        promise30Whole();
        C.end("SlotsTest");
    }

    private static void promise29Save() {
        WoodPiles x = Checks.yard("Oppl040l112l003");
        C.outOfBounds("save(-1)", () -> x.save(-1));
        C.outOfBounds("save(2)", () -> x.save(2));
        C.outOfBounds("save(max)", () -> x.save(Integer.MAX_VALUE));
        C.badState("nothing saved by that", () -> x.restore(0));
        C.due("save", x.save(0), 3);
        C.badState("slot 1", () -> x.restore(1));
        x.draw(0);
        C.due("came so far, not those in piles", x.save(1), 3);
        C.due("restore", x.restore(0), 3);
        C.due("slot 0", x.about(2), 3);
        C.due("restore", x.restore(1), 3);
        C.due("slot 1", x.about(2), 2);
        x.log(1, 5);
        C.due("save over it", x.save(1), 4);
        x.restore(0);
        C.due("restore", x.restore(1), 4);
        x.log(0, 1);
        C.due("undo behind save", x.undo(), 0);
        x.log(0, 1);
        x.save(0);
        C.due("save keeps what is remembered", x.undo(), 0);
    }

    private static void promise30Restore() {
        WoodPiles x = Checks.yard("Oppl040l112");
        C.outOfBounds("restore(-1)", () -> x.restore(-1));
        C.outOfBounds("restore(2)", () -> x.restore(2));
        x.log(0, 3);
        x.save(0);
        x.log(0, 4);
        C.badState("an empty slot", () -> x.restore(1));
        C.outOfBounds("no slot", () -> x.restore(2));
        C.due("a refused restore forgets nothing", x.undo(), 1);
        x.log(0, 4);
        C.due("restore", x.restore(0), 3);
        C.badState("all is forgotten", x::undo);
        x.pile();
        x.log(2, 9);
        C.due("the slot keeps it", x.restore(0), 3);
        C.due("piles", x.about(0), 2);
        x.append('O');
        x.restore(0);
        C.due("the text stays", x.clearText(), 1);
        Checks.write(x, "O");
        x.load();
        C.badState("load empties it", () -> x.restore(0));
        C.due("save behind load", x.save(0), 0);
        C.due("restore behind load", x.restore(0), 0);
    }

    private static void promise30Whole() {
        WoodPiles x = Checks.yard("Opppl040l041l042l003l180l181l182l150c1+r20");
        x.set(33);
        x.draw(2);
        x.draw(1);
        x.take(1);
        x.nights(3);
        String before = Checks.looks(x);
        x.save(1);
        x.set(44);
        x.mend(0);
        x.nights(9);
        x.cover(1, false);
        x.cover(2, true);
        x.wind(9);
        x.join(2, 0);
        x.draw(0);
        x.pile();
        x.log(3, 7);
        C.due("restore", x.restore(1), 8);
        C.due("the whole state", Checks.looks(x), before);
        x.rain(30);
        x.restore(1);
        C.due("the whole state again", Checks.looks(x), before);
    }
}
