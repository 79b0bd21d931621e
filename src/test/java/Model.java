import java.util.ArrayDeque;
import java.util.ArrayList;
import java.util.Arrays;
import java.util.Collections;
import java.util.Comparator;
import java.util.Deque;
import java.util.List;
import java.util.regex.Matcher;
import java.util.regex.Pattern;

/**
 * The document once more, written quite another way than the class: trees that never change and functions that call
 * themselves. Tests compare the two.
 */
final class Model {
    record Tree(int log, Tree left, Tree right) { }

    /** Shared by copies of the state, but for what is written here. */
    static final class State {
        List<Integer> damps = new ArrayList<>();
        List<Tree> piles = new ArrayList<>();
        List<Boolean> covers = new ArrayList<>();
        int burnt;
        int taken;
        int lifts;
        int heat;
        int smoked;
        int cold;
        int refused;
        int setting = 40;

        State copy() {
            State s = new State();
            s.damps = new ArrayList<>(damps);
            s.piles = new ArrayList<>(piles);
            s.covers = new ArrayList<>(covers);
            s.burnt = burnt;
            s.taken = taken;
            s.lifts = lifts;
            s.heat = heat;
            s.smoked = smoked;
            s.cold = cold;
            s.refused = refused;
            s.setting = setting;
            return s;
        }
    }

    private static final String COMMAND = "(?:p|l[0-3][0-9][0-9]|d[0-3]|k(?:[01][0-9]|2[0-3])|j[0-3][0-3]|c[0-3][+-]"
        + "|[wr](?:0[1-9]|[12][0-9]|30)|m[0-3]|n[1-9])";
    private static final Pattern YARD = Pattern.compile("O" + COMMAND + "*", Pattern.DOTALL);
    private static final Pattern ONE = Pattern.compile(COMMAND);

    private State s = new State();
    private final Deque<State> remembered = new ArrayDeque<>();
    private final State[] slots = new State[2];
    private String text = "";

    /** A model in the state of x, with nothing remembered and nothing saved. */
    static Model of(WoodPiles x) {
        Model m = new Model();
        for (int l = 0; l < x.about(1); l++) {
            final int log = l;
            String damp = Checks.outcome(() -> x.logOf(log, 0));
            m.s.damps.add(damp.matches("[0-9]+") ? Integer.parseInt(damp) : 0);
        }
        for (int p = 0; p < x.about(0); p++) {
            m.s.piles.add(treeOf(x, x.pileOf(p, 1)));
            m.s.covers.add(x.pileOf(p, 3) == 1);
        }
        m.s.burnt = x.about(3);
        m.s.taken = x.about(4);
        m.s.lifts = x.about(5);
        m.s.heat = x.about(6);
        m.s.smoked = x.about(7);
        m.s.cold = x.about(8);
        m.s.refused = x.about(9);
        m.s.setting = x.about(11);
        return m;
    }

    private static Tree treeOf(WoodPiles x, int l) {
        return l == -1 ? null : new Tree(l, treeOf(x, x.logOf(l, 4)), treeOf(x, x.logOf(l, 5)));
    }

    // ---- trees

    private boolean ahead(int a, int b) {
        return s.damps.get(a).equals(s.damps.get(b)) ? a < b : s.damps.get(a) < s.damps.get(b);
    }

    private Tree joined(Tree a, Tree b) {
        if (a == null || b == null) {
            return a == null ? b : a;
        }
        s.lifts++;
        return ahead(a.log, b.log)
            ? new Tree(a.log, joined(a.right, b), a.left)
            : new Tree(b.log, joined(b.right, a), b.left);
    }

    private Tree without(Tree t, int l) {
        if (t == null) {
            return null;
        }
        return t.log == l ? joined(t.left, t.right) : new Tree(t.log, without(t.left, l), without(t.right, l));
    }

    private static List<Integer> logs(Tree t) {
        List<Integer> all = new ArrayList<>();
        if (t != null) {
            all.add(t.log);
            all.addAll(logs(t.left));
            all.addAll(logs(t.right));
            Collections.sort(all);
        }
        return all;
    }

    private int off(Tree t) {
        int off = 0;
        if (t != null) {
            for (Tree under : Arrays.asList(t.left, t.right)) {
                off += off(under) + (under != null && ahead(under.log, t.log) ? 1 : 0);
            }
        }
        return off;
    }

    private int dampOf(Tree t) {
        return logs(t).stream().mapToInt(s.damps::get).sum();
    }

    private static int deepest(Tree t) {
        return t == null ? -1 : 1 + Math.max(deepest(t.left), deepest(t.right));
    }

    private static Tree find(Tree t, int l) {
        if (t == null || t.log == l) {
            return t;
        }
        Tree left = find(t.left, l);
        return left == null ? find(t.right, l) : left;
    }

    /** The log and those above it, the log first. */
    private static List<Integer> path(Tree t, int l) {
        List<Integer> way = new ArrayList<>();
        if (t != null && find(t, l) != null) {
            way.addAll(t.log == l ? List.of() : path(find(t.left, l) != null ? t.left : t.right, l));
            way.add(t.log);
        }
        return way;
    }

    // ---- what is needed

    private Tree tree(int p) {
        if (p < 0 || p >= s.piles.size()) {
            throw new IndexOutOfBoundsException();
        }
        return s.piles.get(p);
    }

    private int home(int l) {
        for (int p = 0; p < s.piles.size(); p++) {
            if (find(s.piles.get(p), l) != null) {
                return p;
            }
        }
        throw new IndexOutOfBoundsException();
    }

    private static void range(int v, int low, int high) {
        if (v < low || v > high) {
            throw new IllegalArgumentException();
        }
    }

    private static void state(boolean good) {
        if (!good) {
            throw new IllegalStateException();
        }
    }

    private void remember() {
        remembered.addLast(s.copy());
        if (remembered.size() > 14) {
            remembered.removeFirst();
        }
    }

    // ---- text

    int append(int c) {
        range(c, 0, 255);
        state(text.length() < 120);
        text += (char) c;
        return text.length();
    }

    int clearText() {
        int was = text.length();
        text = "";
        return was;
    }

    int errorPosition() {
        for (int i = 0; i <= text.length(); i++) {
            Matcher m = YARD.matcher(text.substring(0, i));
            if (!m.matches() && !m.hitEnd()) {
                return i - 1;
            }
        }
        return YARD.matcher(text).matches() ? -1 : text.length();
    }

    int load() {
        state(YARD.matcher(text).matches());
        s = new State();
        remembered.clear();
        Arrays.fill(slots, null);
        int leftOut = 0;
        Matcher m = ONE.matcher(text.substring(1));
        while (m.find()) {
            leftOut += obeyed(m.group()) ? 0 : 1;
        }
        remembered.clear();
        s.refused = 0;
        return leftOut;
    }

    private boolean obeyed(String command) {
        String rest = command.substring(1);
        int a = rest.isEmpty() ? 0 : rest.charAt(0) - '0';
        try {
            switch (command.charAt(0)) {
                case 'p' -> pile();
                case 'l' -> log(a, Integer.parseInt(rest.substring(1)));
                case 'd' -> {
                    return draw(a) == 0;
                }
                case 'k' -> take(Integer.parseInt(rest));
                case 'j' -> join(a, rest.charAt(1) - '0');
                case 'c' -> cover(a, rest.charAt(1) == '+');
                case 'w' -> wind(Integer.parseInt(rest));
                case 'r' -> rain(Integer.parseInt(rest));
                case 'm' -> mend(a);
                default -> nights(a);
            }
            return true;
        } catch (RuntimeException e) {
            return false;
        }
    }

    // ---- what there is

    int about(int what) {
        range(what, 0, 11);
        int inPiles = s.piles.stream().mapToInt(t -> logs(t).size()).sum();
        int damp = s.piles.stream().mapToInt(this::dampOf).sum();
        return new int[] {s.piles.size(), s.damps.size(), inPiles, s.burnt, s.taken, s.lifts, s.heat, s.smoked, s.cold,
            s.refused, damp, s.setting}[what];
    }

    int pileOf(int p, int what) {
        Tree t = tree(p);
        range(what, 0, 6);
        return new int[] {logs(t).size(), t == null ? -1 : t.log, deepest(t), s.covers.get(p) ? 1 : 0, off(t), dampOf(t),
            why(t)}[what];
    }

    private int why(Tree t) {
        return t == null ? 1 : off(t) > 0 ? 2 : 0;
    }

    int logOf(int l, int what) {
        int p = home(l);
        range(what, 0, 6);
        Tree self = find(s.piles.get(p), l);
        List<Integer> path = path(s.piles.get(p), l);
        return new int[] {s.damps.get(l), p, path.size() - 1, path.size() > 1 ? path.get(1) : -1,
            self.left == null ? -1 : self.left.log, self.right == null ? -1 : self.right.log, logs(self).size() - 1}[what];
    }

    int ranked(int p, int rank, int way) {
        List<Integer> all = logs(tree(p));
        if (rank < 0 || rank >= all.size()) {
            throw new IndexOutOfBoundsException();
        }
        range(way, 0, 1);
        state(off(tree(p)) == 0);
        all.sort(Comparator.comparing((Integer l) -> s.damps.get(l)));
        return all.get(rank);
    }

    // ---- actions

    int pile() {
        state(s.piles.size() < 4);
        remember();
        s.piles.add(null);
        s.covers.add(false);
        return s.piles.size() - 1;
    }

    int log(int p, int damp) {
        tree(p);
        range(damp, 0, 99);
        state(s.damps.size() < 24);
        remember();
        s.damps.add(damp);
        int l = s.damps.size() - 1;
        s.piles.set(p, joined(tree(p), new Tree(l, null, null)));
        return l;
    }

    int draw(int p) {
        int why = why(tree(p));
        remember();
        if (why == 0) {
            burn(p);
        } else {
            s.refused++;
        }
        return why;
    }

    private void burn(int p) {
        Tree t = s.piles.get(p);
        int damp = s.damps.get(t.log);
        s.burnt++;
        s.heat += damp <= s.setting ? 100 - damp : 0;
        s.smoked += damp <= s.setting ? 0 : 1;
        s.piles.set(p, joined(t.left, t.right));
    }

    int take(int l) {
        int p = home(l);
        remember();
        int before = s.lifts;
        s.piles.set(p, without(s.piles.get(p), l));
        s.taken++;
        return s.lifts - before;
    }

    int join(int p, int q) {
        Tree a = tree(p);
        Tree b = tree(q);
        range(p == q ? 0 : 1, 1, 1);
        remember();
        int before = s.lifts;
        s.piles.set(p, joined(a, b));
        s.piles.set(q, null);
        return s.lifts - before;
    }

    int cover(int p, boolean on) {
        tree(p);
        remember();
        return s.covers.set(p, on) ? 1 : 0;
    }

    int wind(int w) {
        range(w, 1, 30);
        remember();
        for (int p = 0; p < s.piles.size(); p++) {
            for (int l : logs(s.piles.get(p))) {
                int depth = path(s.piles.get(p), l).size() - 1;
                int by = s.covers.get(p) ? w / 4 : depth < 2 ? w : w / 2;
                s.damps.set(l, Math.max(0, s.damps.get(l) - by));
            }
        }
        return about(10);
    }

    int rain(int w) {
        range(w, 1, 30);
        remember();
        wet(w);
        return s.piles.stream().mapToInt(this::off).sum();
    }

    private void wet(int w) {
        for (int p = 0; p < s.piles.size(); p++) {
            for (int l : logs(s.piles.get(p))) {
                int depth = path(s.piles.get(p), l).size() - 1;
                int by = s.covers.get(p) ? 0 : depth < 2 ? w : w / 3;
                s.damps.set(l, Math.min(99, s.damps.get(l) + by));
            }
        }
    }

    int mend(int p) {
        List<Integer> all = logs(tree(p));
        remember();
        int before = s.lifts;
        s.piles.set(p, null);
        for (int l : all) {
            s.piles.set(p, joined(s.piles.get(p), new Tree(l, null, null)));
        }
        return s.lifts - before;
    }

    int nights(int n) {
        range(n, 1, 9);
        remember();
        int before = s.heat;
        for (int i = 0; i < n; i++) {
            int best = -1;
            for (int p = s.piles.size() - 1; p >= 0; p--) {
                Tree t = s.piles.get(p);
                if (why(t) == 0 && (best == -1 || s.damps.get(t.log) <= s.damps.get(s.piles.get(best).log))) {
                    best = p;
                }
            }
            if (best == -1) {
                s.cold++;
            } else {
                burn(best);
            }
        }
        return s.heat - before;
    }

    int set(int v) {
        range(v, 0, 99);
        remember();
        int was = s.setting;
        s.setting = v;
        return was;
    }

    int undo() {
        state(!remembered.isEmpty());
        s = remembered.removeLast();
        return remembered.size();
    }

    // ---- what would be

    /** A model with a copy of this state alone. */
    private Model other() {
        Model m = new Model();
        m.s = s.copy();
        return m;
    }

    int drawsTill(int p, int damp) {
        tree(p);
        range(damp, 0, 99);
        Model m = other();
        int n = 0;
        while (why(m.tree(p)) == 0 && m.s.damps.get(m.tree(p).log) <= damp) {
            m.burn(p);
            n++;
        }
        return n;
    }

    int ifJoined(int p, int q) {
        return other().join(p, q);
    }

    int fewestLifts() {
        return s.piles.size() < 2 ? 0 : other().fewest(s.piles);
    }

    private int fewest(List<Tree> trees) {
        int least = trees.size() == 1 ? 0 : Integer.MAX_VALUE;
        for (int i = 0; i < trees.size(); i++) {
            for (int j = 0; j < trees.size(); j++) {
                if (i != j) {
                    int before = s.lifts;
                    List<Tree> then = new ArrayList<>(trees);
                    then.set(i, joined(trees.get(i), trees.get(j)));
                    then.remove(j);
                    int cost = s.lifts - before;
                    least = Math.min(least, cost + fewest(then));
                }
            }
        }
        return least;
    }

    int ifMended(int p, int what) {
        tree(p);
        range(what, 0, 1);
        Model m = other();
        int lifts = m.mend(p);
        int before = m.s.lifts;
        while (m.s.piles.get(p) != null) {
            m.burn(p);
        }
        return what == 0 ? lifts : m.s.lifts - before;
    }

    int harmless() {
        int best = -1;
        for (int w = 0; w <= 30; w++) {
            Model m = other();
            m.wet(w);
            boolean fine = m.s.piles.stream().allMatch(t -> m.off(t) == 0);
            if (w == 0 && !fine) {
                return -1;
            }
            best = fine ? w : best;
        }
        return best;
    }

    // ---- scripts, simulations

    int runScript(int n, long script) {
        range(n, 1, 3);
        range(script < 0 || Long.toString(script).length() > 5 * n ? 0 : 1, 1, 1);
        String digits = "0".repeat(15) + script;
        digits = digits.substring(digits.length() - 5 * n);
        Model m = other();
        for (int i = 0; i < n; i++) {
            if (!m.succeeds(digits.substring(5 * i, 5 * i + 5))) {
                return i;
            }
        }
        return -1;
    }

    private boolean succeeds(String g) {
        int p = g.charAt(1) - '0';
        int q = g.charAt(2) - '0';
        int inner = Integer.parseInt(g.substring(2, 4));
        int end = Integer.parseInt(g.substring(3));
        try {
            if (g.matches("1.0..")) {
                log(p, end);
            } else if (g.matches("2.000")) {
                return draw(p) == 0;
            } else if (g.matches("3..00")) {
                take(Integer.parseInt(g.substring(1, 3)));
            } else if (g.matches("4..00")) {
                join(p, q);
            } else if (g.matches("500..")) {
                wind(end);
            } else if (g.matches("510..")) {
                rain(end);
            } else if (g.matches("6.000")) {
                mend(p);
            } else if (g.matches("7.0..")) {
                return logs(tree(p)).size() >= end;
            } else if (g.matches("8...0")) {
                home(inner);
                return tree(p) != null && tree(p).log == inner;
            } else if (g.matches("9.0..")) {
                return off(tree(p)) <= end;
            } else {
                return false;
            }
            return true;
        } catch (RuntimeException e) {
            return false;
        }
    }

    int simulate(long seed, int m) {
        range(m, 1, 60);
        Model copy = other();
        long x = seed;
        for (int i = 0; i < m; i++) {
            x = x * 6364136223846793005L + 1442695040888963407L;
            copy.turn((int) (x >>> 33));
        }
        return 10000 * copy.about(2) + Math.min(9999, copy.s.lifts - s.lifts);
    }

    private void turn(int r) {
        int q = r / 16;
        try {
            switch (r % 16) {
                case 0 -> pile();
                case 1, 2, 3, 4, 5 -> log(q % 4, q / 4 % 100);
                case 6, 7 -> draw(q % 4);
                case 8 -> take(q % 24);
                case 9 -> join(q % 4, q / 4 % 4);
                case 10 -> cover(q % 4, q / 4 % 2 == 1);
                case 11 -> wind(1 + q % 30);
                case 12 -> rain(1 + q % 30);
                case 13 -> mend(q % 4);
                default -> nights(1 + q % 3);
            }
        } catch (IllegalArgumentException | IllegalStateException | IndexOutOfBoundsException e) {
            // left out
        }
    }

    // ---- save slots

    int save(int slot) {
        if (slot < 0 || slot > 1) {
            throw new IndexOutOfBoundsException();
        }
        slots[slot] = s.copy();
        return s.damps.size();
    }

    int restore(int slot) {
        if (slot < 0 || slot > 1) {
            throw new IndexOutOfBoundsException();
        }
        state(slots[slot] != null);
        s = slots[slot].copy();
        remembered.clear();
        return s.damps.size();
    }
}
