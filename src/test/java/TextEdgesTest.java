/** Promises 1 to 5 and the paragraph TEXT, sentence by sentence, at the edges that they name. */
final class TextEdgesTest {
    private static final Checks C = new Checks();
    private static final String DIGITS = "0123456789";

    public static void main(String[] args) {
        promise1();
        promise2();
        promise3();
        promise4();
        commands();
        promise5();
        leftOut();
        C.end("TextEdgesTest");
    }

    // ---- a new object

    private static void promise1() {
        C.sentence("1: Creates a yard without piles.", TextEdgesTest::noPiles);
        C.sentence("1: A new object", TextEdgesTest::nothingRemembered);
    }

    private static void noPiles() {
        WoodPiles x = new WoodPiles();
        C.due("piles", x.about(0), 0);
        for (int p = -1; p <= 4; p++) {
            final int pile = p;
            C.outOfBounds("pileOf(" + p + ", 0)", () -> x.pileOf(pile, 0));
        }
        for (int l = -1; l <= 24; l++) {
            final int log = l;
            C.outOfBounds("logOf(" + l + ", 0)", () -> x.logOf(log, 0));
        }
        C.due("the first pile", x.pile(), 0);
    }

    private static void nothingRemembered() {
        WoodPiles x = new WoodPiles();
        C.badState("undo", x::undo);
        C.badState("restore(0)", () -> x.restore(0));
        C.badState("restore(1)", () -> x.restore(1));
        C.due("the text", x.clearText(), 0);
        C.due("errorPosition", x.errorPosition(), 0);
        for (int what = 0; what <= 10; what++) {
            C.due("about(" + what + ")", x.about(what), 0);
        }
        C.due("about(11)", x.about(11), 40);
    }

    // ---- append

    private static void promise2() {
        C.sentence("2: character code, 0 to 255", TextEdgesTest::codes);
        C.sentence("2: Returns the new length of the text.", TextEdgesTest::newLengths);
        C.sentence("2: Throws IllegalArgumentException if c is out of range", TextEdgesTest::codesOutOfRange);
        C.sentence("2: Throws IllegalStateException if the text already has 120 characters", TextEdgesTest::fullText);
        C.sentence("2: If several exceptions apply to a call, the one that its description names first is thrown.",
                TextEdgesTest::fullTextAndBadCode);
        C.sentence("TEXT: The object has a text buffer of at most 120 characters.", TextEdgesTest::all120Count);
    }

    private static void codes() {
        WoodPiles x = new WoodPiles();
        C.due("append(0)", x.append(0), 1);
        C.due("append(255)", x.append(255), 2);
        C.due("append(128)", x.append(128), 3);
    }

    private static void newLengths() {
        WoodPiles x = new WoodPiles();
        for (int length = 1; length <= 120; length++) {
            C.due("append", x.append('d'), length);
        }
        x.clearText();
        C.due("append behind clearText", x.append('d'), 1);
    }

    private static void codesOutOfRange() {
        WoodPiles x = new WoodPiles();
        for (int c : new int[] {-1, 256, 256 + 'O', 65536 + 'O', -256 + 'O', Integer.MIN_VALUE, Integer.MAX_VALUE}) {
            C.badArgument("append(" + c + ")", () -> x.append(c));
        }
        C.due("the text", x.clearText(), 0);
    }

    private static void fullText() {
        WoodPiles x = new WoodPiles();
        Checks.write(x, "O" + "p".repeat(118));
        C.due("the 120th", x.append('p'), 120);
        C.badState("the 121st", () -> x.append('d'));
        C.badState("the 121st again", () -> x.append(0));
        C.due("the text is the one of before", x.errorPosition(), -1);
        C.due("its length", x.clearText(), 120);
    }

    private static void fullTextAndBadCode() {
        WoodPiles x = new WoodPiles();
        Checks.write(x, "p".repeat(120));
        C.badArgument("append(256)", () -> x.append(256));
        C.badArgument("append(-1)", () -> x.append(-1));
    }

    private static void all120Count() {
        WoodPiles x = new WoodPiles();
        Checks.write(x, "O" + "p".repeat(116) + "l07");
        C.due("the last command has no end", x.errorPosition(), 120);
        x.clearText();
        Checks.write(x, "O" + "p".repeat(115) + "l077");
        C.due("the last command ends at 120", x.errorPosition(), -1);
        C.due("load leaves the piles above 4 out", x.load(), 111);
        C.due("the last command is done", x.logOf(0, 0), 77);
    }

    // ---- clearText

    private static void promise3() {
        C.sentence("3: Empties the text buffer.", TextEdgesTest::emptied);
        C.sentence("3: Returns the previous length of the text.", TextEdgesTest::previousLength);
    }

    private static void emptied() {
        WoodPiles x = new WoodPiles();
        Checks.write(x, "Opp");
        x.clearText();
        C.due("errorPosition", x.errorPosition(), 0);
        C.badState("load", x::load);
        Checks.write(x, "Op");
        x.load();
        C.due("nothing of the text of before is left", x.about(0), 1);
    }

    private static void previousLength() {
        WoodPiles x = new WoodPiles();
        C.due("of none", x.clearText(), 0);
        x.append('O');
        C.due("of one", x.clearText(), 1);
        C.due("cleared twice", x.clearText(), 0);
        Checks.write(x, "O" + "p".repeat(119));
        C.due("of a full one", x.clearText(), 120);
    }

    // ---- errorPosition

    private static int errorOf(String text) {
        WoodPiles x = new WoodPiles();
        Checks.write(x, text);
        return x.errorPosition();
    }

    private static void promise4() {
        C.sentence("4: Returns the error position of the text; NONE if it is a yard.", TextEdgesTest::yardsHaveNone);
        C.sentence("4: Checks the text.", TextEdgesTest::checkChangesNothing);
        C.sentence("TEXT: A yard as a text is the letter O, and then any number of commands", TextEdgesTest::letterO);
        C.sentence("TEXT: There are no blanks.", TextEdgesTest::noBlanks);
        C.sentence("TEXT: The text is read from left to right.", TextEdgesTest::firstErrorCounts);
        C.sentence("TEXT: The error position is the index of the first character that these rules do not allow at its place",
                TextEdgesTest::errorAtLastPlace);
        C.sentence("TEXT: (a digit is not allowed if no number that is allowed begins with it and those before it)",
                TextEdgesTest::digitsThatBeginNoNumber);
        C.sentence("TEXT: if the text ends too soon, it is the length of the text", TextEdgesTest::endsTooSoon);
    }

    private static void yardsHaveNone() {
        String[] yards = {"O", "Op", "Opppp", "Opppppppp", "Ol000l399k00k23w01w30r01r30n1n9c0+c3-j00j33d0d3m0m3"};
        for (String text : yards) {
            C.due(text, errorOf(text), WoodPiles.NONE);
        }
        C.due("119 commands", errorOf("O" + "p".repeat(119)), -1);
    }

    private static void checkChangesNothing() {
        WoodPiles x = Checks.yard("Oppl040c1+");
        x.log(1, 5);
        String before = Checks.looks(x);
        Checks.write(x, "Opd");
        C.due("errorPosition", x.errorPosition(), 3);
        C.due("errorPosition again", x.errorPosition(), 3);
        C.due("the state", Checks.looks(x), before);
        C.due("the text", x.append('0'), 4);
        C.due("errorPosition then", x.errorPosition(), -1);
        C.due("the states that are remembered", x.undo(), 0);
    }

    private static void letterO() {
        allowedNext("", "O");
        C.due("only the first one", errorOf("OO"), 1);
        C.due("not in the middle", errorOf("OpO"), 2);
    }

    private static void noBlanks() {
        C.due("at first", errorOf(" O"), 0);
        C.due("behind the O", errorOf("O p"), 1);
        C.due("in a command", errorOf("Ol 040"), 2);
        C.due("in a number", errorOf("Ol00 4"), 4);
        C.due("at the end", errorOf("Op "), 2);
        C.due("a line's end", errorOf("Op\n"), 2);
        C.due("a tab", errorOf("O\tp"), 1);
    }

    private static void firstErrorCounts() {
        C.due("two errors", errorOf("Opxpx"), 2);
        C.due("an error, and an end too soon", errorOf("Op?l0"), 2);
        C.due("no O, and more errors", errorOf("xx"), 0);
        C.due("an error in a number, and one behind it", errorOf("Ok24x"), 3);
    }

    private static void errorAtLastPlace() {
        String fit = "O" + "p".repeat(118);
        C.due("at 119", errorOf(fit + "x"), 119);
        C.due("at 1", errorOf("Ox" + "p".repeat(118)), 1);
        C.due("at 0", errorOf("p" + "p".repeat(119)), 0);
        C.due("in the last command", errorOf("O" + "p".repeat(117) + "n0"), 119);
    }

    private static void digitsThatBeginNoNumber() {
        String[] wrongAtLast = {"Ok3", "Ok9", "Ok24", "Ok29", "Ow4", "Ow9", "Ow00", "Ow31", "Ow39", "Or4", "Or9", "Or00", "Or31",
            "Or39", "On0", "Ol4", "Od4", "Oj4", "Oj04", "Oc4", "Om4"};
        for (String text : wrongAtLast) {
            C.due(text, errorOf(text), text.length() - 1);
        }
        C.due("0 begins 01", errorOf("Ow0"), 3);
        C.due("3 begins 30", errorOf("Or3"), 3);
        C.due("2 begins 20", errorOf("Ok2"), 3);
        C.due("9 begins 90", errorOf("Ol09"), 4);
    }

    private static void endsTooSoon() {
        C.due("no text", errorOf(""), 0);
        for (String command : new String[] {"l040", "d0", "k05", "j01", "c0+", "w15", "r15", "m0", "n5"}) {
            for (int length = 1; length < command.length(); length++) {
                String text = "Op" + command.substring(0, length);
                C.due(text, errorOf(text), text.length());
            }
            C.due("Op" + command, errorOf("Op" + command), -1);
        }
        C.due("at 120", errorOf("O" + "p".repeat(118) + "d"), 120);
    }

    // ---- the commands, character by character

    private static void commands() {
        C.sentence("TEXT: a pile is a digit (0 to 3)", TextEdgesTest::pileDigits);
        C.sentence("TEXT: p: pile()", () -> allowedNext("O", "pldkjcwrmn"));
        C.sentence("TEXT: p: pile(); and the next one", () -> allowedNext("Op", "pldkjcwrmn"));
        C.sentence("TEXT: l, a pile, and two digits for a damp (00 to 99): log()", TextEdgesTest::damps);
        C.sentence("TEXT: d and a pile: draw()", () -> allowedNext("Od0", "pldkjcwrmn"));
        C.sentence("TEXT: k and two digits for a log (00 to 23): take()", TextEdgesTest::logNumbers);
        C.sentence("TEXT: j and two piles: join()", TextEdgesTest::twoPiles);
        C.sentence("TEXT: c, a pile, and + or -: cover(), covered or not", TextEdgesTest::covers);
        C.sentence("TEXT: w and two digits (01 to 30): wind()", () -> weather("Ow"));
        C.sentence("TEXT: r and two digits (01 to 30): rain()", () -> weather("Or"));
        C.sentence("TEXT: m and a pile: mend()", () -> allowedNext("Om3", "pldkjcwrmn"));
        C.sentence("TEXT: n and a digit (1 to 9): nights()", TextEdgesTest::nightDigits);
    }

    /** Of all characters just those may stand behind the beginning. */
    private static void allowedNext(String beginning, String allowed) {
        for (int c = 0; c <= 255; c++) {
            WoodPiles x = new WoodPiles();
            Checks.write(x, beginning);
            x.append(c);
            boolean fine = x.errorPosition() != beginning.length();
            C.due(beginning + " and then the character " + c, fine, allowed.indexOf(c) >= 0);
        }
    }

    private static void pileDigits() {
        for (String beginning : new String[] {"Ol", "Od", "Oj", "Oj0", "Oj3", "Oc", "Om"}) {
            allowedNext(beginning, "0123");
        }
    }

    private static void damps() {
        allowedNext("Ol0", DIGITS);
        allowedNext("Ol30", DIGITS);
        allowedNext("Ol39", DIGITS);
        allowedNext("Ol300", "pldkjcwrmn");
        allowedNext("Ol099", "pldkjcwrmn");
    }

    private static void logNumbers() {
        allowedNext("Ok", "012");
        allowedNext("Ok0", DIGITS);
        allowedNext("Ok1", DIGITS);
        allowedNext("Ok2", "0123");
        allowedNext("Ok23", "pldkjcwrmn");
    }

    private static void twoPiles() {
        allowedNext("Oj33", "pldkjcwrmn");
        allowedNext("Oj00", "pldkjcwrmn");
        C.due("the same pile twice is allowed", errorOf("Oj11"), -1);
    }

    private static void covers() {
        allowedNext("Oc0", "+-");
        allowedNext("Oc3", "+-");
        allowedNext("Oc3-", "pldkjcwrmn");
    }

    private static void weather(String beginning) {
        allowedNext(beginning, "0123");
        allowedNext(beginning + "0", "123456789");
        allowedNext(beginning + "1", DIGITS);
        allowedNext(beginning + "2", DIGITS);
        allowedNext(beginning + "3", "0");
        allowedNext(beginning + "30", "pldkjcwrmn");
    }

    private static void nightDigits() {
        allowedNext("On", "123456789");
        allowedNext("On9", "pldkjcwrmn");
    }

    // ---- load

    private static void promise5() {
        C.sentence("5: Makes everything as in a new object", TextEdgesTest::asInANewObject);
        C.sentence("5: and then does the commands of the text", TextEdgesTest::doesTheCommands);
        C.sentence("5: Behind it no state is remembered", TextEdgesTest::remembersNothing);
        C.sentence("5: and both save slots are empty", TextEdgesTest::emptiesSlots);
        C.sentence("5: Keeps the text, also if it throws the exception.", TextEdgesTest::keepsTheText);
        C.sentence("5: Returns the number of commands that are left out.", TextEdgesTest::countsThoseLeftOut);
        C.sentence("5: Throws IllegalStateException if the text is not a yard", TextEdgesTest::notAYard);
        C.sentence("5: A call that throws an exception changes nothing.", TextEdgesTest::refusedLoadChangesNothing);
        C.sentence("5: as in a new object: logs are numbered from 0", TextEdgesTest::numbersBeginAgain);
    }

    private static void asInANewObject() {
        WoodPiles x = Checks.yard("Oppppl010l190l220l330l331c0+c3+d0d1k03n1n1n1l099");
        x.draw(3);
        x.set(77);
        for (int what = 0; what <= 11; what++) {
            C.due("about(" + what + ") is another one before", x.about(what) != new WoodPiles().about(what), true);
        }
        Checks.write(x, "O");
        C.due("load", x.load(), 0);
        C.due("the state", Checks.looks(x), Checks.looks(new WoodPiles()));
        x.clearText();
        Checks.write(x, "Oppppl050");
        x.load();
        for (int p = 0; p < 4; p++) {
            C.due("pile " + p + " is covered", x.pileOf(p, 3), 0);
        }
        C.due("the setting", x.about(11), 40);
    }

    private static void doesTheCommands() {
        String[] texts = {"Oppl000", "Oppl199", "Oppl040l012d0", "Oppl040l012k01", "Oppl040l112j01", "Oppl040l112j10", "Oppc1+",
            "Oppc1+c1-", "Oppl040l012l077l003w30", "Oppl040l012l077l003r30", "Oppl040l041l042l003r02m0", "Oppl040l112n1",
            "Oppl040l112n9", "Oppppl399c3+r01", "Oppl040w01"};
        for (String text : texts) {
            C.due(text, Checks.looks(Checks.yard(text)), Checks.looks(called(text)));
        }
        C.due("the order counts", Checks.yard("Opl040c0+r10").logOf(0, 0) - Checks.yard("Opl040r10c0+").logOf(0, 0), -10);
    }

    /** The yard that comes of calls with the methods that the letters name. */
    private static WoodPiles called(String text) {
        WoodPiles x = new WoodPiles();
        int i = 1;
        while (i < text.length()) {
            char letter = text.charAt(i);
            int width = letter == 'p' ? 1 : letter == 'l' ? 4 : "kjcwr".indexOf(letter) >= 0 ? 3 : 2;
            call(x, letter, text.substring(i + 1, i + width));
            i += width;
        }
        return x;
    }

    private static void call(WoodPiles x, char letter, String rest) {
        int pile = rest.isEmpty() ? 0 : rest.charAt(0) - '0';
        switch (letter) {
            case 'p' -> x.pile();
            case 'l' -> x.log(pile, Integer.parseInt(rest.substring(1)));
            case 'd' -> x.draw(pile);
            case 'k' -> x.take(Integer.parseInt(rest));
            case 'j' -> x.join(pile, rest.charAt(1) - '0');
            case 'c' -> x.cover(pile, rest.charAt(1) == '+');
            case 'w' -> x.wind(Integer.parseInt(rest));
            case 'r' -> x.rain(Integer.parseInt(rest));
            case 'm' -> x.mend(pile);
            default -> x.nights(pile);
        }
    }

    private static void remembersNothing() {
        WoodPiles x = Checks.yard("O");
        for (int i = 0; i < 20; i++) {
            x.set(i);
        }
        Checks.write(x, "Opl040d0c0+n1");
        x.load();
        C.badState("undo behind load", x::undo);
        x.set(50);
        C.due("undo of what came behind load", x.undo(), 0);
        C.due("the yard that was loaded", x.about(3), 1);
    }

    private static void emptiesSlots() {
        WoodPiles x = Checks.yard("Op");
        x.save(0);
        x.save(1);
        Checks.write(x, "Op");
        x.load();
        C.badState("restore(0)", () -> x.restore(0));
        C.badState("restore(1)", () -> x.restore(1));
        x.save(1);
        C.badState("restore(0), with slot 1 filled", () -> x.restore(0));
        C.due("restore(1)", x.restore(1), 0);
    }

    private static void keepsTheText() {
        WoodPiles x = new WoodPiles();
        Checks.write(x, "Opl040");
        x.load();
        C.due("load again", x.load(), 0);
        C.due("one log again", x.about(1), 1);
        C.due("append goes on with the text", x.append('x'), 7);
        C.badState("load of a wrong text", x::load);
        C.due("the text that was refused", x.errorPosition(), 6);
        C.due("its length", x.clearText(), 7);
    }

    private static int leftOutOf(String text) {
        WoodPiles x = new WoodPiles();
        Checks.write(x, text);
        return x.load();
    }

    private static void countsThoseLeftOut() {
        C.due("none", leftOutOf("O"), 0);
        C.due("none of many", leftOutOf("Oppppl040l140l240l340"), 0);
        C.due("the last one", leftOutOf("Oppppp"), 1);
        C.due("the first one", leftOutOf("Od0p"), 1);
        C.due("all", leftOutOf("O" + "k00".repeat(39)), 39);
        C.due("all of 119 but four", leftOutOf("O" + "p".repeat(119)), 115);
    }

    private static void notAYard() {
        String[] texts = {"", "o", "p", "Ox", "Op ", "Opl", "Opl0", "Opl04", "Ow00", "Ow31", "Ok24", "On0", "Oj4", "Oc0", "OO"};
        for (String text : texts) {
            WoodPiles x = new WoodPiles();
            Checks.write(x, text);
            C.badState("load of " + text, x::load);
        }
    }

    private static void refusedLoadChangesNothing() {
        WoodPiles x = Checks.yard("Oppl040l141c1+");
        x.save(0);
        x.log(1, 9);
        Checks.write(x, "Oppl050d");
        C.refused("load", x, IllegalStateException.class, x::load);
        C.due("the states that are remembered", x.undo(), 0);
        C.due("the slot", x.restore(0), 2);
        C.badState("the other slot", () -> x.restore(1));
    }

    private static void numbersBeginAgain() {
        WoodPiles x = new WoodPiles();
        Checks.write(x, "Op");
        x.load();
        for (int l = 0; l < 24; l++) {
            x.log(0, 50);
        }
        x.load();
        C.due("the first log", x.log(0, 50), 0);
        C.due("the second pile", x.pile(), 1);
    }

    // ---- what is left out

    private static void leftOut() {
        C.sentence("TEXT: Commands that would throw an exception are left out: p", () -> left("Opppp", "p"));
        C.sentence("TEXT: Commands that would throw an exception are left out: l", TextEdgesTest::leftOutLogs);
        C.sentence("TEXT: Commands that would throw an exception are left out: d", () -> left("Opl040", "d1"));
        C.sentence("TEXT: Commands that would throw an exception are left out: k", TextEdgesTest::leftOutTakes);
        C.sentence("TEXT: Commands that would throw an exception are left out: j", TextEdgesTest::leftOutJoins);
        C.sentence("TEXT: Commands that would throw an exception are left out: c", () -> left("Opp", "c2+"));
        C.sentence("TEXT: Commands that would throw an exception are left out: m", () -> left("Oppl040", "m2"));
        C.sentence("TEXT: and piles that cannot be drawn by draw(), are left out: empty ones", () -> left("Oppl040", "d1"));
        C.sentence("TEXT: and piles that cannot be drawn by draw(), are left out: those that are off",
                () -> left("Oppl040l041l042l003r02", "d0"));
        C.sentence("TEXT: (these count as refused nowhere)", TextEdgesTest::refusedNowhere);
        C.sentence("TEXT: Commands that would throw no exception are not left out", TextEdgesTest::notLeftOut);
    }

    /** The command is left out of the text behind the beginning, and nothing comes of it. */
    private static void left(String beginning, String command) {
        C.due(beginning + " and " + command, leftOutOf(beginning + command), leftOutOf(beginning) + 1);
        C.due(beginning + " and " + command + ", the state", Checks.looks(Checks.yard(beginning + command)),
                Checks.looks(Checks.yard(beginning)));
    }

    private static void leftOutLogs() {
        left("O", "l000");
        left("Opp", "l240");
        left("Oppp", "l340");
        left("Op" + "l050".repeat(24), "l040");
        left("Op" + "l050".repeat(24) + "d0", "l040");
    }

    private static void leftOutTakes() {
        left("Opl040", "k01");
        left("Opl040d0", "k00");
        left("Opl040k00", "k00");
        left("Op" + "l050".repeat(23), "k23");
        C.due("the last log that there can be", leftOutOf("Op" + "l050".repeat(24) + "k23"), 0);
    }

    private static void leftOutJoins() {
        left("Oppl040", "j02");
        left("Oppl040", "j20");
        left("Oppl040", "j00");
        left("Oppl040", "j33");
    }

    private static void refusedNowhere() {
        C.due("an empty pile", Checks.yard("Opd0d0").about(9), 0);
        C.due("no pile", Checks.yard("Od0").about(9), 0);
        C.due("a pile that is off", Checks.yard("Opl040l041l042l003r02d0").about(9), 0);
        C.due("cold nights are no draws", Checks.yard("Opn9").about(9), 0);
    }

    private static void notLeftOut() {
        C.due("wind, rain and nights without piles", leftOutOf("Ow30r30n9"), 0);
        C.due("mend, cover and join of empty piles", leftOutOf("Oppm0c0+c0+j01j10"), 0);
        C.due("cover of what is covered", leftOutOf("Opc0+c0+c0-c0-"), 0);
        C.due("cold nights count", Checks.yard("On9").about(8), 9);
    }
}
