/** Promises 2 to 5: the text buffer. */
final class TextTest {
    private static final Checks C = new Checks();

    public static void main(String[] args) {
        promise2Append();
        promise3ClearText();
        promise4ErrorPosition();
        promise4Ranges();
        promise5Load();
        promise5LeftOut();
        promise5Fresh();
        promise5Refusal();
        C.end("TextTest");
    }

    private static void promise2Append() {
        WoodPiles x = new WoodPiles();
        C.badArgument("append(-1)", () -> x.append(-1));
        C.badArgument("append(256)", () -> x.append(256));
        C.badArgument("append(min)", () -> x.append(Integer.MIN_VALUE));
        C.badArgument("append(max)", () -> x.append(Integer.MAX_VALUE));
        C.due("append(0)", x.append(0), 1);
        C.due("append(255)", x.append(255), 2);
        for (int i = 3; i <= 120; i++) {
            C.due("append", x.append('p'), i);
        }
        C.badState("append to 120", () -> x.append('p'));
        C.badArgument("append(256) to 120", () -> x.append(256));
        C.due("length then", x.clearText(), 120);
        C.due("append again", x.append('O'), 1);
    }

    private static void promise3ClearText() {
        WoodPiles x = new WoodPiles();
        C.due("clearText of none", x.clearText(), 0);
        Checks.write(x, "Opp");
        C.due("clearText", x.clearText(), 3);
        C.due("clearText twice", x.clearText(), 0);
        Checks.write(x, "O");
        C.due("nothing of the old text is left", x.errorPosition(), -1);
        x.load();
        C.due("no pile of the old text", x.about(0), 0);
    }

    private static int errorOf(String text) {
        WoodPiles x = new WoodPiles();
        Checks.write(x, text);
        return x.errorPosition();
    }

    private static void promise4ErrorPosition() {
        String[] yards = {"O", "Op", "Ol000", "Ol399", "Od0", "Od3", "Ok00", "Ok09", "Ok19", "Ok20", "Ok23", "Oj00",
            "Oj33", "Oc0+", "Oc3-", "Ow01", "Ow09", "Ow10", "Ow29", "Ow30", "Or01", "Or30", "Om0", "Om3", "On1", "On9",
            "Oppl042d0k05j01c1+w15r20m2n4p"};
        for (String text : yards) {
            C.due(text, errorOf(text), -1);
        }
        String[] short_ = {"", "Ol", "Ol0", "Ol04", "Od", "Ok", "Ok2", "Oj", "Oj1", "Oc", "Oc1", "Ow", "Ow3", "Ow0",
            "Or", "Or1", "Om", "On", "Oppl0"};
        for (String text : short_) {
            C.due(text + " ends too soon", errorOf(text), text.length());
        }
    }

    private static void promise4Ranges() {
        String[] wrongAtEnd = {"o", "p", " ", "OO", "Ox", "O ", "OP", "Ol4", "Ol-", "Ol0x", "Ol09:", "Ol0/", "Od4", "Ok3",
            "Ol00:", "Ol01/", "Ok0:", "Ok1/", "Ow0:", "Ow1/", "Or0:", "Or1/", "Ol:", "Od/", "Oj1/", "On/", "Oc:",
            "Ok24", "Ok29", "Ok:", "Oj4", "Oj04", "Oj0x", "Oc4", "Oc0*", "Oc00", "Ow4", "Ow00", "Ow31", "Ow39", "Ow9",
            "Or4", "Or00", "Or31", "Om4", "On0", "On:", "Opd0 ", "Ol0000", "Od00", "Op\u00ff", "Op\u0000", "Oc0,", "Oc0."};
        for (String text : wrongAtEnd) {
            C.due(text + " is wrong at its last", errorOf(text), text.length() - 1);
            C.due(text + " and more", errorOf(text + "pp"), text.length() - 1);
        }
    }

    private static void promise5Load() {
        WoodPiles x = new WoodPiles();
        Checks.write(x, "Oppl040l112l003c1+");
        C.due("load", x.load(), 0);
        C.due("piles", x.about(0), 2);
        C.due("pile 0", Checks.shape(x, 0), "2:3(0:40 -)");
        C.due("pile 1", Checks.shape(x, 1), "1:12");
        C.due("covered", x.pileOf(1, 3), 1);
        C.due("the text is kept", x.clearText(), 18);
        Checks.write(x, "Opl020c0+c0-l010w04r30d0k00j00n1m0");
        C.due("load", x.load(), 1);
        C.due("uncovered, then weather", Checks.looks(x), "1 2 0 1 1 1 64 0 1 0 0 40 0 -1 -1 0 0 0 1 - ");
        x.clearText();
        Checks.write(x, "O");
        C.due("load of none", x.load(), 0);
        C.due("as in a new object", Checks.looks(x), Checks.looks(new WoodPiles()));
    }

    private static void promise5LeftOut() {
        WoodPiles x = new WoodPiles();
        Checks.write(x, "Ol000d0k00j01c0+m0");
        C.due("all left out", x.load(), 6);
        C.due("nothing done", Checks.looks(x), Checks.looks(new WoodPiles()));
        x.clearText();
        Checks.write(x, "Opppppd0j11l010k01k00k00w30r01n1");
        C.due("pile 5, draw, join, take 1, take 0 twice", x.load(), 5);
        C.due("refused nowhere", x.about(9), 0);
        C.due("cold night", x.about(8), 1);
        C.due("taken out", x.about(4), 1);
        x.clearText();
        Checks.write(x, "Opl050l051l052r15d0");
        C.due("not off", x.load(), 0);
        x.clearText();
        Checks.write(x, "Opl010l010l008l009l007r29d0d0");
        C.due("off, and left out", x.load(), 2);
        C.due("refused nowhere", x.about(9), 0);
        C.due("burnt none", x.about(3), 0);
        x.clearText();
        StringBuilder many = new StringBuilder("Op");
        for (int i = 0; i < 26; i++) {
            many.append("l0").append(10 + i);
        }
        Checks.write(x, many.toString());
        C.due("two logs above 24", x.load(), 2);
        C.due("24 came", x.about(1), 24);
    }

    private static void promise5Fresh() {
        WoodPiles x = Checks.yard("Oppl040l041c0+c1+d0d0n9n1k00");
        C.due("heat, smoke and cold nights", x.about(6) * 10000 + x.about(7) * 100 + x.about(8), 600110);
        Checks.write(x, "O");
        x.load();
        C.due("all as in a new object", Checks.looks(x), Checks.looks(new WoodPiles()));
        Checks.write(x, "ppppl140");
        x.load();
        C.due("and the covers", x.pileOf(0, 3) + x.pileOf(1, 3), 0);
        x.clearText();
        x.set(7);
        x.draw(1);
        x.save(0);
        x.save(1);
        Checks.write(x, "Op");
        C.due("load", x.load(), 0);
        C.due("setting as in a new object", x.about(11), 40);
        C.due("refused as in a new object", x.about(9), 0);
        C.badState("no state is remembered", x::undo);
        C.badState("slot 0 is empty", () -> x.restore(0));
        C.badState("slot 1 is empty", () -> x.restore(1));
        C.due("one pile", x.about(0), 1);
        C.due("load twice", x.load(), 0);
        C.due("one pile still", x.about(0), 1);
    }

    private static void promise5Refusal() {
        WoodPiles x = Checks.yard("Oppl040");
        x.log(1, 9);
        x.save(1);
        String before = Checks.looks(x);
        C.badState("load of no text", x::load);
        Checks.write(x, "Oppd");
        C.badState("load of a text that ends too soon", x::load);
        C.due("state", Checks.looks(x), before);
        C.due("text kept", x.clearText(), 4);
        C.due("slot kept", x.restore(1), 2);
        WoodPiles y = Checks.yard("Op");
        y.log(0, 3);
        C.badState("load of no text", y::load);
        C.due("still remembered", y.undo(), 0);
    }
}
