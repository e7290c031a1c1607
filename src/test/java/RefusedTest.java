import java.util.function.ToIntFunction;

/**
 * Each call that can be refused, by each number that refuses it: it answers that, status() and one
 * count tell it, and all else is as it was.
 */
public final class RefusedTest {
    private static final int NONE = OpenGates.NONE;

    public static void main(String[] args) {
        numbersThatCantBe();
        noSuch();
        notNow();
        noRoom();
        textsThatCantBe();
        Check.finish();
    }

    /** A land with something of everything, so that a change would be seen. */
    private static OpenGates made(boolean full) {
        OpenGates x = new OpenGates();
        x.fort(40, 0);
        x.fort(30, 1);
        x.fort(0, 2);
        x.sign(0, 0, 8);
        x.sign(0, 1, 3);
        x.sign(1, 2, 7);
        x.road(0, 1, 4);
        x.road(1, 2, 5);
        x.fame(1, 70);
        x.terms(2, 6);
        for (int i = 0; i < (full ? 6 : 2); i++) {
            Texts.law(x, "turns 40+mood;bars if sign=5;fame 0-3");
        }
        x.force(1);
        for (int i = 0; i < (full ? 10 : 3); i++) {
            x.siege(3, 2, 20);
            x.fire(5 + i);
            x.counted(i % 2, 2);
        }
        x.needs(0, 1);
        x.image(0);
        for (int i = 3; full && i < 6; i++) {
            x.fort(9, 3);
        }
        x.show(0, 0);
        x.man(1, 20);
        x.march(20, 1);
        x.terms(1, 300);
        x.show(0, 1);
        x.man(0, 5);
        x.march(9, 2);
        x.sieges(77, 9);
        // A broom, orders that stop, and a tape that waits.
        x.feed(-1, 0, 0, 0, 0);
        x.end(1);
        x.row();
        x.show(0, 2);
        x.march(30, 1);
        Texts.orders(x, "man 0 by 1;man 9 by 9");
        Texts.feed(x, "man 0 by 1;mann");
        return x;
    }

    private static void refused(String call, int by, boolean full, ToIntFunction<OpenGates> calling) {
        Check.about(call);
        OpenGates x = made(full);
        x.image(1);
        int[] before = refusals(x);
        Check.same("answer", calling.applyAsInt(x), by);
        Check.same("status", x.status(), by);
        int[] behind = refusals(x);
        for (int i = 0; i < before.length; i++) {
            Check.same("refused by " + NUMBERS[i], behind[i] - before[i], NUMBERS[i] == by ? 1 : 0);
        }
        OpenGates same = made(full);
        same.image(1);
        Check.isTrue("the land is as it was", Picture.ofLand(x).equals(Picture.ofLand(same)));
        x = made(full);
        calling.applyAsInt(x);
        Check.isTrue("the tape is as it was", Picture.ofTape(x).equals(Picture.ofTape(made(full))));
    }

    private static final int[] NUMBERS = {-1, -2, -3, -5, -6};

    private static int[] refusals(OpenGates x) {
        int[] counts = new int[5];
        for (int i = 0; i < 5; i++) {
            counts[i] = x.count(8 + i);
        }
        return counts;
    }

    private static void numbersThatCantBe() {
        refused("fort(100, 0)", -1, false, x -> x.fort(100, 0));
        refused("fort(0, 4)", -1, false, x -> x.fort(0, 4));
        refused("fort(100, 0), full", -1, true, x -> x.fort(100, 0));
        refused("sign(6, 0, 0)", -1, false, x -> x.sign(6, 0, 0));
        refused("sign(0, 3, 0)", -1, false, x -> x.sign(0, 3, 0));
        refused("sign(0, 1, 11)", -1, false, x -> x.sign(0, 1, 11));
        refused("sign(1, 2, 100)", -1, false, x -> x.sign(1, 2, 100));
        refused("road(1, 1, 3)", -1, false, x -> x.road(1, 1, 3));
        refused("road(0, 1, 100)", -1, false, x -> x.road(0, 1, 100));
        refused("fame(4, 1)", -1, false, x -> x.fame(4, 1));
        refused("fame(1, 101)", -1, false, x -> x.fame(1, 101));
        refused("terms(3, 0)", -1, false, x -> x.terms(3, 0));
        refused("terms(0, 1000)", -1, false, x -> x.terms(0, 1000));
        refused("terms(1, -1)", -1, false, x -> x.terms(1, -1));
        refused("terms(2, 10)", -1, false, x -> x.terms(2, 10));
        refused("show(0, 6)", -1, false, x -> x.show(0, 6));
        refused("hide(0, -1)", -1, false, x -> x.hide(0, -1));
        refused("man(0, 100)", -1, false, x -> x.man(0, 100));
        refused("march(0, 0)", -1, false, x -> x.march(0, 0));
        refused("march(100, 0)", -1, false, x -> x.march(100, 0));
        refused("siege(100, 0, 0)", -1, false, x -> x.siege(100, 0, 0));
        refused("siege(0, 11, 0)", -1, false, x -> x.siege(0, 11, 0));
        refused("siege(0, 0, 1000)", -1, true, x -> x.siege(0, 0, 1000));
        refused("fire(64)", -1, false, x -> x.fire(64));
        refused("needs(6, 0)", -1, false, x -> x.needs(6, 0));
        refused("needs(0, 10)", -1, false, x -> x.needs(0, 10));
        refused("counted(6, 0)", -1, false, x -> x.counted(6, 0));
        refused("counted(0, 10)", -1, true, x -> x.counted(0, 10));
        refused("sieges(-1, 1)", -1, false, x -> x.sieges(-1, 1));
        refused("sieges(1000001, 1)", -1, false, x -> x.sieges(1000001, 1));
        refused("sieges(1, 61)", -1, false, x -> x.sieges(1, 61));
        refused("image(2)", -1, false, x -> x.image(2));
        refused("back(-1)", -1, false, x -> x.back(-1));
    }

    private static void noSuch() {
        refused("road(0, 3, 1)", -2, false, x -> x.road(0, 3, 1));
        refused("road(6, 0, 1)", -2, true, x -> x.road(6, 0, 1));
        refused("force(2)", -2, false, x -> x.force(2));
        refused("force(-2)", -2, false, x -> x.force(-2));
        refused("force(6)", -2, true, x -> x.force(6));
        refused("show(3, 3)", -2, false, x -> x.show(3, 3));
        refused("hide(3, 0)", -2, false, x -> x.hide(3, 0));
        refused("man(3, 0)", -2, false, x -> x.man(3, 0));
        refused("march(9, 3)", -2, false, x -> x.march(9, 3));
        Check.about("back(1), not kept");
        OpenGates x = made(false);
        Check.same("answer", x.back(1), -2);
        Check.same("status", x.status(), -2);
        Check.same("refused by -2", x.count(9), 1);
        Check.isTrue("the land is as it was", Picture.ofLand(x).equals(Picture.ofLand(made(false))));
    }

    private static void notNow() {
        refused("show(0, 0), shown", -3, false, x -> x.show(0, 0));
        refused("show(0, 5), barred", -3, false, x -> x.show(0, 5));
        refused("show(2, 0), taken", -3, false, x -> x.show(2, 0));
        refused("hide(0, 3), not shown", -3, false, x -> x.hide(0, 3));
        refused("hide(2, 0), taken", -3, false, x -> x.hide(2, 0));
        refused("man(0, 99), too many", -3, false, x -> x.man(0, 99));
        refused("man(0, -99), too few", -3, false, x -> x.man(0, -99));
        refused("man(2, 1), taken", -3, false, x -> x.man(2, 1));
        refused("march(9, 2), taken", -3, false, x -> x.march(9, 2));
        Check.about("march(9, 0) on the last day");
        OpenGates x = Lands.of(5, 0);
        x.terms(0, 999);
        Check.same("answer", x.march(9, 0), -3);
        OpenGates same = Lands.of(5, 0);
        same.terms(0, 999);
        Check.isTrue("the land is as it was", Picture.ofLand(x).equals(Picture.ofLand(same)));
        Check.about("sieges(1, 1) without forts");
        x = new OpenGates();
        Check.same("answer", x.sieges(1, 1), -3);
        Check.isTrue("the land is as it was", Picture.ofLand(x).equals(Picture.ofLand(new OpenGates())));
        Check.about("undo() of nothing");
        x = made(false);
        x.terms(2, 6);
        Check.same("answer", x.undo(), -3);
        Check.same("status", x.status(), -3);
        same = made(false);
        same.terms(2, 6);
        Check.isTrue("the land is as it was", Picture.ofLand(x).equals(Picture.ofLand(same)));
    }

    private static void noRoom() {
        refused("fort(1, 1), full", -5, true, x -> x.fort(1, 1));
        refused("siege(1, 1, 1), full", -5, true, x -> x.siege(1, 1, 1));
        refused("fire(1), full", -5, true, x -> x.fire(1));
        refused("counted(1, 1), full", -5, true, x -> x.counted(1, 1));
    }

    /** The tape is empty behind these: that alone, and what fault() and stopped() tell, may change. */
    private static void textRefused(String text, int by, boolean full, boolean law, int fault) {
        Check.about((law ? "law: " : "orders: ") + text);
        OpenGates x = made(full);
        int faultBefore = x.fault();
        int stoppedBefore = x.stopped();
        int[] before = refusals(x);
        x.end(0);
        Check.same("answer", law ? Texts.law(x, text) : Texts.orders(x, text), by);
        Check.same("status", x.status(), by);
        Check.same("tape", x.count(7), 0);
        Check.same("fault", x.fault(), by == -5 ? faultBefore : fault);
        Check.same("stopped", x.stopped(), law ? stoppedBefore : by == -3 ? 1 : NONE);
        Check.same("brooms", x.brooms(), 1);
        int[] behind = refusals(x);
        for (int i = 0; i < before.length; i++) {
            Check.same("refused by " + NUMBERS[i], behind[i] - before[i], NUMBERS[i] == by ? 1 : 0);
        }
        Check.isTrue("the land is as it was", Picture.ofLand(x).equals(Picture.ofLand(made(full))));
    }

    private static void textsThatCantBe() {
        textRefused("", -6, false, true, 0);
        textRefused("   ", -6, false, true, 3);
        textRefused("turns 1;turns", -6, false, true, 13);
        textRefused("turns 1;turns", -5, true, true, NONE);
        textRefused("bars", -5, true, true, NONE);
        textRefused("", -6, true, false, 0);
        textRefused("man 0 by 1;man", -6, false, false, 14);
        textRefused("man 0 by 1;man 0 by 99", -3, false, false, NONE);
        textRefused("show 3 at 0;march 9 to 2", -3, false, false, NONE);
        textRefused("march 9 to 0;man 1/0 by 1", -3, true, false, NONE);
        textRefused("man 0 by 0-1 times 20;show 0 at 0", -3, true, false, NONE);
        Check.about("row() of an empty tape");
        OpenGates x = made(false);
        x.end(0);
        Check.same("answer", x.row(), -6);
        Check.same("brooms", x.brooms(), 1);
        Check.isTrue("the land is as it was", Picture.ofLand(x).equals(Picture.ofLand(made(false))));
    }
}
