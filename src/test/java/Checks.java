import java.util.Objects;

/** Counts the answers that are not the ones that are due, and ends a test program with 1 if there was one. */
final class Checks {
    interface Call {
        int answer();
    }

    private int wrong = 0;
    private int asked = 0;
    private int sentences = 0;
    private String words = "";

    /** Runs the test of one sentence of the document; a wrong answer in it is told with the sentence's words. */
    void sentence(String itsWords, Runnable test) {
        int askedBefore = asked;
        sentences++;
        words = "\"" + itsWords + "\": ";
        try {
            test.run();
        } catch (RuntimeException e) {
            due("the run of calls", e.toString(), "no exception");
        }
        due("the test asks something", asked > askedBefore, true);
        words = "";
    }

    void due(String what, Object got, Object want) {
        asked++;
        if (!Objects.equals(got, want)) {
            wrong++;
            System.out.println(words + what + " answered " + got + ", due is " + want);
        }
    }

    /** The exception's very class counts: one that the machine throws is not the one that the document names. */
    void dueThrow(String what, Class<? extends RuntimeException> want, Call call) {
        due(what, outcome(call), want.getSimpleName());
    }

    void outOfBounds(String what, Call call) {
        dueThrow(what, IndexOutOfBoundsException.class, call);
    }

    void badArgument(String what, Call call) {
        dueThrow(what, IllegalArgumentException.class, call);
    }

    void badState(String what, Call call) {
        dueThrow(what, IllegalStateException.class, call);
    }

    /** The call throws just that, and nothing that can be asked about the state is another one behind it. */
    void refused(String what, WoodPiles x, Class<? extends RuntimeException> want, Call call) {
        String before = looks(x);
        dueThrow(what, want, call);
        due("the state behind " + what, looks(x), before);
    }

    void dueShape(WoodPiles x, int p, String want) {
        due("the shape of pile " + p, shape(x, p), want);
    }

    static String outcome(Call call) {
        try {
            return Integer.toString(call.answer());
        } catch (RuntimeException e) {
            return e.getClass().getSimpleName();
        }
    }

    void end(String name) {
        String told = sentences == 0 ? "" : sentences + " sentences, ";
        System.out.println(name + ": " + told + asked + " answers, " + wrong + " wrong");
        if (wrong > 0) {
            System.exit(1);
        }
    }

    // ---- yards for the tests

    static void write(WoodPiles x, String text) {
        for (int i = 0; i < text.length(); i++) {
            x.append(text.charAt(i));
        }
    }

    static WoodPiles yard(String text) {
        WoodPiles x = new WoodPiles();
        write(x, text.replace(" ", ""));
        x.load();
        x.clearText();
        return x;
    }

    /** A pile as log:damp(left right), with - for nothing; only log:damp if nothing is under it. */
    static String shape(WoodPiles x, int p) {
        return shapeBelow(x, x.pileOf(p, 1));
    }

    private static String shapeBelow(WoodPiles x, int l) {
        if (l == WoodPiles.NONE) {
            return "-";
        }
        String self = l + ":" + x.logOf(l, 0);
        int left = x.logOf(l, 4);
        int right = x.logOf(l, 5);
        if (left == WoodPiles.NONE && right == WoodPiles.NONE) {
            return self;
        }
        return self + "(" + shapeBelow(x, left) + " " + shapeBelow(x, right) + ")";
    }

    /** All that can be asked about the state without changing it, as one text. */
    static String looks(WoodPiles x) {
        StringBuilder all = new StringBuilder();
        for (int what = 0; what <= 11; what++) {
            all.append(x.about(what)).append(' ');
        }
        for (int p = 0; p < x.about(0); p++) {
            for (int what = 0; what <= 6; what++) {
                all.append(x.pileOf(p, what)).append(' ');
            }
            all.append(shape(x, p)).append(' ');
        }
        return all.toString();
    }
}
