import java.util.Random;

/** Runs of calls by chance, each asked of the class and of the plain model. */
public final class ModelTest {
    private static final int RUNS = 3000;
    private static final int CALLS = 300;

    private final Random random;
    private final OpenGates x = new OpenGates();
    private final Model m = new Model();
    private final StringBuilder told = new StringBuilder();
    private final boolean settled;
    private int calls = 0;
    private String waiting = "";

    private ModelTest(int seed) {
        random = new Random(seed);
        settled = seed % 2 == 0;
    }

    public static void main(String[] args) {
        for (int seed = 0; seed < RUNS && !Check.anyWrong(); seed++) {
            ModelTest run = new ModelTest(seed);
            Check.about("run " + seed);
            for (int i = 0; i < CALLS && !Check.anyWrong(); i++) {
                run.oneCall();
                run.sameState();
            }
            if (Check.anyWrong()) {
                System.out.println(run.told);
            }
        }
        Check.finish();
    }

    private void same(String call, long got, long due) {
        told.append(call).append(" = ").append(due).append('\n');
        Check.same(call, got, due);
    }

    private int to(int most) {
        return random.nextInt(most + 1);
    }

    /** A number of a range; now and then one beside it. */
    private int near(int least, int most) {
        int beside = random.nextInt(60);
        if (beside == 0) {
            return least - 1;
        }
        if (beside == 1) {
            return most + 1;
        }
        return beside == 2 ? random.nextInt() : least + random.nextInt(most - least + 1);
    }

    private int fort() {
        return random.nextInt(12) == 0 ? near(0, 5) : to(Math.max(0, m.count(0) - 1));
    }

    private void oneCall() {
        if (!waiting.isEmpty()) {
            readText();
            return;
        }
        int which = random.nextInt(20);
        calls++;
        // In every other run the land is settled soon, so that many deeds can be undone.
        if (settled && calls > 30 && which < 3) {
            which = 3;
        }
        if (which < 3) {
            landCall();
        } else if (which < 8) {
            deedCall();
        } else if (which < 10) {
            textCall();
        } else if (which < 15) {
            paperCall();
        } else if (which < 18) {
            hillCall();
        } else {
            otherCall();
        }
    }

    private void landCall() {
        int a = near(0, 99);
        int b = near(0, 3);
        int f = fort();
        int g = fort();
        int sign = near(0, 5);
        int what = near(0, 2);
        int value = random.nextBoolean() ? near(0, 10) : near(0, 99);
        switch (random.nextInt(8)) {
            case 0, 1 -> same("fort(" + a + ", " + b + ")", x.fort(a, b), m.fort(a, b));
            case 2, 3 -> same("sign(" + sign + ", " + what + ", " + value + ")", x.sign(sign, what, value),
                m.sign(sign, what, value));
            case 4, 5 -> same("road(" + f + ", " + g + ", " + a + ")", x.road(f, g, a % 12), m.road(f, g, a % 12));
            case 6 -> {
                int fame = near(0, 100);
                same("fame(" + b + ", " + fame + ")", x.fame(b, fame), m.fame(b, fame));
            }
            default -> {
                int term = what == 0 ? random.nextInt(6) == 0 ? near(990, 999) : near(0, 30) : near(0, 1000);
                int value2 = what == 2 ? near(0, 9) : term;
                same("terms(" + what + ", " + value2 + ")", x.terms(what, value2), m.terms(what, value2));
            }
        }
    }

    private void deedCall() {
        int f = fort();
        int sign = near(0, 5);
        int by = random.nextBoolean() ? near(-9, 9) : near(-99, 99);
        int army = near(1, 99);
        switch (random.nextInt(11)) {
            case 0, 1, 2 -> same("show(" + f + ", " + sign + ")", x.show(f, sign), m.show(f, sign));
            case 3, 4 -> same("hide(" + f + ", " + sign + ")", x.hide(f, sign), m.hide(f, sign));
            case 5, 6 -> same("man(" + f + ", " + by + ")", x.man(f, by), m.man(f, by));
            case 7, 8 -> same("march(" + army + ", " + f + ")", x.march(army, f), m.march(army, f));
            default -> same("undo()", x.undo(), m.undo());
        }
    }

    private void paperCall() {
        int f = fort();
        int g = fort();
        int army = near(1, 99);
        int what = near(0, 1);
        int sign = near(0, 5);
        switch (random.nextInt(10)) {
            case 0 -> {
                int of = near(0, 4);
                same("of(" + f + ", " + of + ")", x.of(f, of), m.of(f, of));
            }
            case 1 -> same("asks(" + f + ", " + sign + ", " + what + ")", x.asks(f, sign, what), m.asks(f, sign, what));
            case 2 -> {
                int asked = near(2, 3);
                same("asks(" + f + ", " + army + ", " + asked + ")", x.asks(f, army, asked), m.asks(f, army, asked));
            }
            case 3, 4 -> same("bluff(" + f + ", " + army + ", " + what + ")", x.bluff(f, army, what),
                m.bluff(f, army, what));
            case 5 -> same("scout(" + f + ", " + what + ")", x.scout(f, what), m.scout(f, what));
            case 6 -> {
                int n = near(0, 30);
                same("holds(" + f + ", " + n + ")", x.holds(f, n), m.holds(f, n));
            }
            case 7, 8 -> {
                int i = near(-1, 5);
                same("retreat(" + f + ", " + g + ", " + i + ")", x.retreat(f, g, i), m.retreat(f, g, i));
            }
            default -> gameCall();
        }
    }

    private void gameCall() {
        int most = random.nextBoolean() ? 4 : 99;
        int a0 = near(-most, most);
        int a1 = near(-most, most);
        int b0 = near(-most, most);
        int b1 = near(-most, most);
        int what = near(0, 3);
        same("game(" + a0 + ", " + a1 + ", " + b0 + ", " + b1 + ", " + what + ")", x.game(a0, a1, b0, b1, what),
            m.game(a0, a1, b0, b1, what));
    }

    private void hillCall() {
        int hills = near(0, 63);
        int hill = near(0, 5);
        int what = near(0, 1);
        int small = random.nextInt(10) == 0 ? near(0, 9) : near(0, 3);
        int i = near(-1, 20);
        switch (random.nextInt(11)) {
            case 0, 1 -> same("fire(" + hills + ")", x.fire(hills), m.fire(hills));
            case 2 -> same("needs(" + hill + ", " + small + ")", x.needs(hill, small), m.needs(hill, small));
            case 3 -> same("enough(" + what + ")", x.enough(what), m.enough(what));
            case 4 -> same("counted(" + hill + ", " + small + ")", x.counted(hill, small), m.counted(hill, small));
            case 5, 6 -> same("fits(" + i + ")", x.fits(i), m.fits(i));
            case 7 -> same("next(" + what + ")", x.next(what), m.next(what));
            case 8 -> {
                int cost = near(0, 20);
                int name = near(0, random.nextBoolean() ? 10 : 3);
                int gain = near(0, random.nextBoolean() ? 60 : 999);
                same("siege(" + cost + ", " + name + ", " + gain + ")", x.siege(cost, name, gain),
                    m.siege(cost, name, gain));
            }
            case 9 -> {
                int name = near(0, 10);
                int of = near(0, 8);
                same("career(" + name + ", " + of + ")", x.career(name, of), m.career(name, of));
            }
            default -> {
                if (random.nextInt(4) == 0) {
                    same("forget()", x.forget(), m.forget());
                }
            }
        }
    }

    private void otherCall() {
        int k = near(0, 1);
        int seed = near(0, 1000000);
        int n = near(1, 60);
        int f = near(0, 5);
        int what = near(0, 3);
        int law = near(-1, 5);
        switch (random.nextInt(12)) {
            case 0 -> same("image(" + k + ")", x.image(k), m.image(k));
            case 1 -> same("back(" + k + ")", x.back(k), m.back(k));
            case 2, 3 -> same("sieges(" + seed + ", " + n + ")", x.sieges(seed, n), m.sieges(seed, n));
            case 4, 5 -> same("drawn(" + f + ", " + what + ")", x.drawn(f, what), m.drawn(f, what));
            case 6, 7, 8 -> same("force(" + law + ")", x.force(law), m.force(law));
            case 9 -> rowCall();
            case 10 -> {
                int cut = near(0, 25);
                same("end(" + cut + ")", x.end(cut), m.end(cut));
            }
            default -> feedCall(random.nextInt(), random.nextInt(), 5, 6, 7);
        }
    }

    private void feedCall(int a, int b, int c, int d, int e) {
        same("feed(" + a + ", " + b + ", " + c + ", " + d + ", " + e + ")", x.feed(a, b, c, d, e),
            m.feed(a, b, c, d, e));
    }

    private void rowCall() {
        if (random.nextBoolean()) {
            feedCall(near(0, 110) << 24 | near(0, 4) << 16 | 200 << 8, random.nextInt(), 0x09000801, 0, 0);
            int cut = near(0, 7);
            same("end(" + cut + ")", x.end(cut), m.end(cut));
        }
        same("row()", x.row(), m.row());
    }

    private void textCall() {
        same("end(0)", x.end(0), m.end(0));
        waiting = new TextsByChance(random).text();
    }

    private void readText() {
        String text = waiting;
        waiting = "";
        boolean law = text.charAt(0) == 'L';
        text = text.substring(1);
        told.append(text).append('\n');
        for (int at = 0; at < text.length(); at += 20) {
            feedCall(Texts.word(text, at), Texts.word(text, at + 4), Texts.word(text, at + 8),
                Texts.word(text, at + 12), Texts.word(text, at + 16));
        }
        same("end(" + text.length() + ")", x.end(text.length()), m.end(text.length()));
        if (law) {
            same("law()", x.law(), m.law());
            if (m.status() == 0 && random.nextInt(3) > 0) {
                int newest = m.count(5) - 1;
                same("force(" + newest + ")", x.force(newest), m.force(newest));
            }
        } else {
            same("orders()", x.orders(), m.orders());
        }
    }

    /** All that can be asked without changing anything, but for what is dear. */
    private void sameState() {
        for (int what = -1; what <= 21; what++) {
            Check.same("count(" + what + ")", x.count(what), m.count(what));
        }
        for (int f = 0; f < 6; f++) {
            for (int what = 0; what < 5; what++) {
                Check.same("of(" + f + ", " + what + ")", x.of(f, what), m.of(f, what));
            }
        }
        Check.same("status()", x.status(), m.status());
        Check.same("fault()", x.fault(), m.fault());
        Check.same("stopped()", x.stopped(), m.stopped());
        Check.same("brooms()", x.brooms(), m.brooms());
    }
}
