import java.util.Random;

/** Long runs of calls by chance (always the same ones), each answer compared with the model's. */
final class ModelTest {
    private static final Checks C = new Checks();
    private static final int RUNS = 500;
    private static final int CALLS = 512;
    private static final int[] ODD = {-1, -2, 2, 4, 5, 7, 12, 24, 31, 100, 121, 256, Integer.MAX_VALUE, Integer.MIN_VALUE};

    private final Random random;
    private final WoodPiles x = new WoodPiles();
    private final Model m = new Model();
    private final int actions;
    private String told = "";

    private ModelTest(long seed) {
        random = new Random(seed);
        actions = 20 + random.nextInt(70);
    }

    public static void main(String[] args) {
        for (int run = 0; run < RUNS; run++) {
            new ModelTest(run).run(run);
        }
        C.end("ModelTest");
    }

    private void run(int run) {
        int piles = random.nextInt(5);
        for (int i = 0; i < piles; i++) {
            same("run " + run, 8);
        }
        for (int i = piles; i < CALLS; i++) {
            int kind = random.nextInt(100);
            same("run " + run + ", call " + i, kind < actions ? 8 + random.nextInt(14) : random.nextInt(29));
            if (i % 64 == 63) {
                sameLooks("run " + run + ", behind call " + i);
            }
        }
    }

    private void sameLooks(String where) {
        for (int what = 0; what <= 11; what++) {
            C.due(where + ", about(" + what + ")", x.about(what), m.about(what));
        }
        for (int l = 0; l < 24; l++) {
            for (int what = 0; what <= 6; what++) {
                final int log = l;
                final int asked = what;
                C.due(where + ", logOf(" + l + ", " + what + ")", Checks.outcome(() -> x.logOf(log, asked)),
                        Checks.outcome(() -> m.logOf(log, asked)));
            }
        }
        for (int p = 0; p < m.about(0); p++) {
            samePile(where, p);
        }
    }

    private void samePile(String where, int p) {
        for (int what = 0; what <= 6; what++) {
            C.due(where + ", pileOf(" + p + ", " + what + ")", x.pileOf(p, what), m.pileOf(p, what));
        }
        for (int i = 0; i <= 2 * m.pileOf(p, 0); i++) {
            final int rank = i / 2;
            final int way = i % 2;
            C.due(where + ", ranked(" + p + ", " + rank + ", " + way + ")", Checks.outcome(() -> x.ranked(p, rank, way)),
                    Checks.outcome(() -> m.ranked(p, rank, way)));
        }
        C.due(where + ", drawsTill(" + p + ")", x.drawsTill(p, 50), m.drawsTill(p, 50));
        for (int what = 0; what <= 1; what++) {
            C.due(where + ", ifMended(" + p + ", " + what + ")", x.ifMended(p, what), m.ifMended(p, what));
        }
        C.due(where + ", fewestLifts", x.fewestLifts(), m.fewestLifts());
        C.due(where + ", harmless", x.harmless(), m.harmless());
    }

    private void same(String where, int method) {
        int a = some();
        int b = some();
        int c = random.nextInt(20) == 0 ? some() : random.nextInt(2);
        boolean on = random.nextBoolean();
        long number = random.nextBoolean() ? random.nextLong() : script();
        int sign = sign();
        String got = Checks.outcome(() -> ofClass(method, a, b, c, on, number, sign));
        String want = Checks.outcome(() -> ofModel(method, a, b, c, on, number, sign));
        C.due(where + ", method " + method + " with " + a + " " + b + " " + c + " " + on + " " + number, got, want);
    }

    private int some() {
        int kind = random.nextInt(30);
        if (kind == 0) {
            return ODD[random.nextInt(ODD.length)];
        }
        return kind < 18 ? random.nextInt(4) : kind < 26 ? random.nextInt(24) : random.nextInt(100);
    }

    private long script() {
        long script = 0;
        for (int i = random.nextInt(3); i >= 0; i--) {
            int[] groups = {10000 + 1000 * random.nextInt(5) + random.nextInt(100), 20000 + 1000 * random.nextInt(5),
                30000 + 100 * random.nextInt(26), 40000 + 100 * random.nextInt(45), 50000 + random.nextInt(32),
                51000 + random.nextInt(32), 60000 + 1000 * random.nextInt(5), 70000 + 1000 * random.nextInt(5)
                + random.nextInt(12), 80000 + 1000 * random.nextInt(4) + 10 * random.nextInt(25),
                90000 + 1000 * random.nextInt(5) + random.nextInt(4), random.nextInt(100000)};
            script = script * 100000 + groups[random.nextInt(groups.length)];
        }
        return script;
    }

    /** The next character of a command, most often, so that long yards are written too. */
    private int sign() {
        if (told.isEmpty()) {
            String[] commands = {"p", "p", "l1" + two(100), "l0" + two(100), "l0" + two(100), "l" + random.nextInt(4) + two(100),
                "d" + random.nextInt(4), "k" + two(24), "j" + random.nextInt(4) + random.nextInt(4), "c1+", "c0-", "w" + two(31),
                "r" + two(31), "m" + random.nextInt(4), "n" + random.nextInt(10), "O", "l4", "k" + two(30)};
            told = m.errorPosition() == 0 ? "O" : commands[random.nextInt(commands.length)];
        }
        int sign = told.charAt(0);
        told = told.substring(1);
        return random.nextInt(100) == 0 ? random.nextInt(300) - 20 : sign;
    }

    private String two(int bound) {
        int v = random.nextInt(bound);
        return (v < 10 ? "0" : "") + v;
    }

    private int ofClass(int method, int a, int b, int c, boolean on, long number, int sign) {
        switch (method) {
            case 0: case 22: return x.append(sign);
            case 1: return random(a) == 0 ? x.clearText() : x.errorPosition();
            case 2: return x.errorPosition();
            case 3: return x.load();
            case 4: return x.about(a);
            case 5: return x.pileOf(a, b % 9);
            case 6: return x.logOf(a, b % 9);
            case 7: return x.ranked(a, b, c);
            case 8: return x.pile();
            case 9: case 10: return x.log(a, b * (c == 0 ? 1 : 9));
            case 11: return x.draw(a);
            case 12: return x.take(a);
            case 13: return x.join(a, b);
            case 14: return x.cover(a, on);
            case 15: return x.wind(a);
            case 16: return x.rain(a);
            case 17: return x.mend(a);
            case 18: return x.nights(a);
            case 19: return x.set(a);
            case 20: return x.undo();
            case 21: return x.log(b, a * 4);
            case 23: return x.drawsTill(a, b);
            case 24: return x.ifJoined(a, b);
            case 25: return on ? x.fewestLifts() : x.harmless();
            case 26: return x.ifMended(a, c);
            case 27: return on ? x.runScript(b % 5, number) : x.simulate(number, a * 3);
            default: return on ? x.save(c) : x.restore(c);
        }
    }

    private int ofModel(int method, int a, int b, int c, boolean on, long number, int sign) {
        switch (method) {
            case 0: case 22: return m.append(sign);
            case 1: return random(a) == 0 ? m.clearText() : m.errorPosition();
            case 2: return m.errorPosition();
            case 3: return m.load();
            case 4: return m.about(a);
            case 5: return m.pileOf(a, b % 9);
            case 6: return m.logOf(a, b % 9);
            case 7: return m.ranked(a, b, c);
            case 8: return m.pile();
            case 9: case 10: return m.log(a, b * (c == 0 ? 1 : 9));
            case 11: return m.draw(a);
            case 12: return m.take(a);
            case 13: return m.join(a, b);
            case 14: return m.cover(a, on);
            case 15: return m.wind(a);
            case 16: return m.rain(a);
            case 17: return m.mend(a);
            case 18: return m.nights(a);
            case 19: return m.set(a);
            case 20: return m.undo();
            case 21: return m.log(b, a * 4);
            case 23: return m.drawsTill(a, b);
            case 24: return m.ifJoined(a, b);
            case 25: return on ? m.fewestLifts() : m.harmless();
            case 26: return m.ifMended(a, c);
            case 27: return on ? m.runScript(b % 5, number) : m.simulate(number, a * 3);
            default: return on ? m.save(c) : m.restore(c);
        }
    }

    private static int random(int a) {
        return a % 3;
    }
}
