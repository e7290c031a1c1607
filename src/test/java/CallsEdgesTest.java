/** The edges that promises 1 to 42 name, a test for each sentence. */
public final class CallsEdgesTest {
    private static final int NONE = OpenGates.NONE;
    private static final int NOTHING = OpenGates.NOTHING;
    private static final int LEAST = Integer.MIN_VALUE;
    private static final int MOST = Integer.MAX_VALUE;
    /** Fort numbers for which there is no fort, where there are two. */
    private static final int[] NO_FORT = {LEAST, -2, -1, 2, 5, 6, 7, MOST};

    public static void main(String[] args) {
        aNewObject();
        calls512();
        fort();
        of();
        sign();
        road();
        fame();
        asks();
        terms();
        feed();
        end();
        row();
        brooms();
        law();
        orders();
        fault();
        stopped();
        force();
        show();
        hide();
        man();
        march();
        undo();
        undoIsClosed();
        bluff();
        scout();
        holds();
        retreat();
        game();
        siege();
        career();
        fire();
        needs();
        enough();
        counted();
        forget();
        fits();
        next();
        sieges();
        drawn();
        image();
        back();
        count();
        status();
        Check.finish();
    }

    private static void aNewObject() {
        Check.about("1: A land without forts");
        OpenGates x = new OpenGates();
        int[] due = {0, 0, 0, 0, 0, 0, 0, 0, 0, 0, 0, 0, 0, NONE, 0, 500, 0, 50, 50, 50, 50};
        for (int what = 0; what < due.length; what++) {
            Check.same("count(" + what + ")", x.count(what), due[what]);
        }
        Check.same("of", x.of(0, 0), NONE);
        Check.same("sieges", x.sieges(0, 1), -3);
        Check.same("back", x.back(0), -2);
        Check.same("back", x.back(1), -2);
        Check.same("drawn", x.drawn(0, 3), NONE);
        OpenGates one = Lands.of(1, 1);
        OpenGates other = new OpenGates();
        Check.same("another object has none", other.count(0), 0);
        Check.same("the first has one", one.count(0), 1);
    }

    private static void calls512() {
        Check.about("An object is used for at most 512 calls");
        OpenGates x = new OpenGates();
        x.fort(50, 0);
        for (int i = 0; i < 170; i++) {
            Check.same("man", x.man(0, 1), 51);
            Check.same("man", x.man(0, -1), 50);
            Check.same("count", x.count(6), Math.min(16, 2 * (i + 1)));
        }
        Check.same("the 512th", x.undo(), 2);
    }

    private static void fort() {
        Check.about("2: A FORT: its number");
        OpenGates x = new OpenGates();
        for (int i = 0; i < 6; i++) {
            Check.same("fort", x.fort(i, i % 4), i);
        }
        Check.about("2: -1");
        x = Lands.of(1, 1);
        Check.same("men below", x.fort(-1, 0), -1);
        Check.same("men above", x.fort(100, 0), -1);
        Check.same("general below", x.fort(0, -1), -1);
        Check.same("general above", x.fort(0, 4), -1);
        Check.same("none came", x.count(0), 1);
        Check.same("the next number", x.fort(2, 2), 1);
        Check.about("2: -5");
        x = Lands.of(1, 0, 1, 0, 1, 0, 1, 0, 1, 0, 1, 0);
        Check.same("no room", x.fort(1, 0), -5);
        Check.same("as many", x.count(0), 6);
    }

    private static void of() {
        Check.about("3: MEN, GENERAL, SHOWN, TAKEN (1, 0), BELIEF");
        OpenGates x = Lands.unbelieved(0, 3, 99, 0);
        int[] first = {0, 3, 0, 0, 0};
        int[] second = {99, 0, 63, 0, 0};
        for (int sign = 0; sign < 6; sign++) {
            x.show(1, sign);
        }
        for (int what = 0; what < 5; what++) {
            Check.same("first " + what, x.of(0, what), first[what]);
            Check.same("second " + what, x.of(1, what), second[what]);
        }
        x.march(1, 0);
        Check.same("taken", x.of(0, 3), 1);
        Check.same("the other", x.of(1, 3), 0);
        x.terms(1, 123);
        Check.same("belief of one that is taken", x.of(0, 4), 123000);
        Check.same("general of one that is taken", x.of(0, 1), 3);
        Check.about("3: NONE");
        for (int what : new int[] {LEAST, -1, 5, MOST}) {
            Check.same("what " + what, x.of(0, what), NONE);
        }
        for (int fort : NO_FORT) {
            Check.same("fort " + fort, x.of(fort, 0), NONE);
        }
        Check.same("it is not REFUSED", x.count(8), 0);
    }

    private static void sign() {
        Check.about("4: what it was");
        OpenGates x = new OpenGates();
        int[] most = {10, 10, 99};
        for (int what = 0; what < 3; what++) {
            x.sign(0, what, 3);
            Check.same("was 3", x.sign(0, what, most[what]), 3);
            Check.same("was the most", x.sign(0, what, 0), most[what]);
            Check.same("was 0", x.sign(0, what, 0), 0);
        }
        Check.same("0 is no refusal", x.status(), 0);
        Check.about("4: -1");
        for (int sign : new int[] {LEAST, -1, 6, MOST}) {
            Check.same("sign " + sign, x.sign(sign, 0, 0), -1);
        }
        for (int what : new int[] {LEAST, -1, 3, MOST}) {
            Check.same("what " + what, x.sign(0, what, 0), -1);
        }
        Check.same("11 is for a PRICE alone", x.sign(0, 0, 11), -1);
        Check.same("11 is for a PRICE alone", x.sign(0, 1, 11), -1);
        Check.same("11 is for a PRICE alone", x.sign(0, 2, 11), 0);
    }

    private static void road() {
        Check.about("5: HOURS between two FORTS: what they were");
        OpenGates x = Lands.of(1, 0, 1, 0, 1, 0);
        Check.same("none", x.road(0, 2, 99), 0);
        Check.same("both ways", x.road(2, 0, 1), 99);
        Check.same("both ways", x.road(0, 2, 0), 1);
        Check.same("no others", x.road(0, 1, 0), 0);
        Check.about("5: -1 (alike ones, too)");
        for (int fort = 0; fort < 4; fort++) {
            Check.same("alike " + fort, x.road(fort, fort, 1), -1);
        }
        Check.same("alike", x.road(-1, -1, 1), -1);
        Check.same("hours", x.road(0, 1, 100), -1);
        Check.same("hours", x.road(0, 1, -1), -1);
        Check.about("5: -2");
        x = Lands.of(1, 0, 1, 0);
        for (int fort : NO_FORT) {
            Check.same("to " + fort, x.road(0, fort, 1), -2);
            Check.same("from " + fort, x.road(fort, 0, 1), -2);
        }
        Check.same("none came", x.road(0, 1, 1), 0);
    }

    private static void fame() {
        Check.about("6: FAME of a GENERAL: what it was");
        OpenGates x = new OpenGates();
        Check.same("50", x.fame(0, 0), 50);
        Check.same("0", x.fame(0, 100), 0);
        Check.same("100", x.fame(0, 100), 100);
        Check.same("another one's", x.fame(3, 1), 50);
        Check.about("6: -1");
        for (int general : new int[] {LEAST, -1, 4, MOST}) {
            Check.same("general " + general, x.fame(general, 1), -1);
        }
        for (int value : new int[] {LEAST, -1, 101, MOST}) {
            Check.same("value " + value, x.fame(0, value), -1);
        }
        Check.same("as it was", x.count(17), 100);
    }

    private static void asks() {
        OpenGates x = Lands.of(1, 0, 1, 0);
        Check.about("7: of a FORT and a SIGN");
        Check.same("sign 0", x.asks(0, 0, 0), 1);
        Check.same("sign 5", x.asks(1, 5, 1), 0);
        for (int sign : new int[] {LEAST, -1, 6, MOST}) {
            Check.same("sign " + sign, x.asks(0, sign, 0), NONE);
            Check.same("sign " + sign, x.asks(0, sign, 1), NONE);
        }
        Check.about("7: of a FORT and an army of 1 .. 99 men");
        Check.same("1 man", x.asks(0, 1, 2), 50);
        Check.same("99 men", x.asks(1, 99, 3), 1);
        for (int army : new int[] {LEAST, -1, 0, 100, MOST}) {
            Check.same("army " + army, x.asks(0, army, 2), NONE);
            Check.same("army " + army, x.asks(0, army, 3), NONE);
        }
        Check.about("7: NONE");
        for (int what : new int[] {LEAST, -1, 4, MOST}) {
            Check.same("what " + what, x.asks(0, 1, what), NONE);
        }
        for (int fort : NO_FORT) {
            for (int what = 0; what < 4; what++) {
                Check.same("fort " + fort, x.asks(fort, 1, what), NONE);
            }
        }
    }

    private static void terms() {
        Check.about("8: A TERM: what it was");
        OpenGates x = new OpenGates();
        int[] first = {0, 500, 0};
        int[] most = {999, 1000, 9};
        for (int what = 0; what < 3; what++) {
            Check.same("at first", x.terms(what, most[what]), first[what]);
            Check.same("the most", x.terms(what, 0), most[what]);
            Check.same("0", x.terms(what, 0), 0);
        }
        Check.about("8: -1");
        for (int what = 0; what < 3; what++) {
            Check.same("above", x.terms(what, most[what] + 1), -1);
            Check.same("below", x.terms(what, -1), -1);
            Check.same("as it was", x.count(14 + what), 0);
        }
        for (int what : new int[] {LEAST, -1, 3, MOST}) {
            Check.same("what " + what, x.terms(what, 0), -1);
        }
    }

    private static void feed() {
        Check.about("9: four of each number, the highest first");
        OpenGates x = new OpenGates();
        Check.same("twenty", x.feed(0x01000200, 0x03000401, 0x05020603, -1, MOST), 20);
        Check.same("six, four brooms", x.row(), 6);
        Check.same("four brooms", x.brooms(), 4);
        int[] general = {0, 0, 0, 1, 2, 3};
        for (int fort = 0; fort < 6; fort++) {
            Check.same("men", x.of(fort, 0), fort + 1);
            Check.same("general", x.of(fort, 1), general[fort]);
        }
        Check.about("9: behind the TAPE: how many it has");
        x = new OpenGates();
        for (int i = 1; i <= 20; i++) {
            Check.same("feed", x.feed(0, 0, 0, 0, 0), 20 * i);
        }
        Check.about("9: NONE, if there would be more than 400");
        Check.same("full", x.feed(0, 0, 0, 0, 0), NONE);
        Check.same("none came", x.count(7), 400);
        x.end(381);
        Check.same("401 bytes", x.feed(0, 0, 0, 0, 0), NONE);
        Check.same("none came", x.count(7), 381);
        x.end(380);
        Check.same("400 bytes", x.feed(0, 0, 0, 0, 0), 400);
        Check.same("it is not REFUSED", x.count(8), 0);
    }

    private static void end() {
        Check.about("10: its first n bytes alone: n");
        OpenGates x = new OpenGates();
        Check.same("of an empty one", x.end(0), 0);
        x.feed(0x09010802, 0, 0, 0, 0);
        Check.same("all", x.end(20), 20);
        Check.same("two", x.end(2), 2);
        x.feed(0x07030000, 0, 0, 0, 0);
        Check.same("four", x.end(4), 4);
        Check.same("row", x.row(), 2);
        Check.same("the first", x.of(0, 0), 9);
        Check.same("what came behind", x.of(1, 0), 7);
        Check.about("10: NONE, if it has not so many, or n is below 0");
        Check.same("one too many", x.end(1), NONE);
        x.feed(0, 0, 0, 0, 0);
        Check.same("one too many", x.end(21), NONE);
        Check.same("as many as could be", x.end(400), NONE);
        Check.same("far too many", x.end(MOST), NONE);
        Check.same("below 0", x.end(-1), NONE);
        Check.same("far below 0", x.end(LEAST), NONE);
        Check.same("as it was", x.count(7), 20);
    }

    private static void row() {
        Check.about("11: the TAPE is empty then: how many FORTS came");
        OpenGates x = new OpenGates();
        x.feed(0x01000200, 0, 0, 0, 0);
        x.end(4);
        Check.same("two", x.row(), 2);
        Check.same("tape", x.count(7), 0);
        x.feed(-1, -1, -1, -1, -1);
        Check.same("none, not refused", x.row(), 0);
        Check.same("tape", x.count(7), 0);
        Check.same("status", x.status(), 0);
        Check.about("11: -6 the TAPE is empty");
        Check.same("empty", x.row(), -6);
        Check.same("status", x.status(), -6);
        x.feed(0, 0, 0, 0, 0);
        x.end(0);
        Check.same("cut to nothing", x.row(), -6);
    }

    private static void brooms() {
        Check.about("12: (0 ahead of any)");
        OpenGates x = new OpenGates();
        Check.same("ahead of any", x.brooms(), 0);
        x.row();
        Check.same("one that was REFUSED", x.brooms(), 0);
        Check.about("12: the latest row() that was not REFUSED");
        x.feed(-1, 0, 0, 0, 0);
        x.end(3);
        x.row();
        Check.same("two", x.brooms(), 2);
        x.row();
        Check.same("one that was REFUSED", x.brooms(), 2);
        x.feed(0, 0, 0, 0, 0);
        x.end(2);
        x.row();
        Check.same("none", x.brooms(), 0);
    }

    private static void law() {
        Check.about("13: The TAPE, which is empty then, becomes a LAW: its number");
        OpenGates x = new OpenGates();
        for (int i = 0; i < 6; i++) {
            Check.same("law", Texts.law(x, "bars"), i);
            Check.same("tape", x.count(7), 0);
        }
        Check.about("13: -5 (ahead of reading it; the TAPE is empty then, too)");
        Check.same("can be read", Texts.law(x, "bars"), -5);
        Check.same("tape", x.count(7), 0);
        Check.same("can't be read", Texts.law(x, "?"), -5);
        Check.same("tape", x.count(7), 0);
        Check.same("fault", x.fault(), NONE);
        Check.same("laws", x.count(5), 6);
        Check.about("13: -6 (blanks alone: FAULT at the end)");
        x = new OpenGates();
        Check.same("nothing", x.law(), -6);
        Check.same("fault", x.fault(), 0);
        Check.same("blanks", Texts.law(x, "  "), -6);
        Check.same("fault", x.fault(), 2);
        Check.same("blanks", Texts.law(x, Texts.repeat(" ", 400)), -6);
        Check.same("fault", x.fault(), 400);
        Check.same("tape", x.count(7), 0);
        Check.same("the first that can be", Texts.law(x, "bars"), 0);
        Check.same("not in FORCE by that", x.count(13), NONE);
    }

    private static void orders() {
        Check.about("14: ORDERS, the TAPE is empty then: how many were run");
        OpenGates x = Lands.of(5, 0);
        Check.same("none", Texts.orders(x, "man 0 by 1 if 1=2"), 0);
        Check.same("tape", x.count(7), 0);
        Check.same("not refused", x.status(), 0);
        Check.same("two", Texts.orders(x, "man 0 by 1;man 0 by 1"), 2);
        Check.about("14: -3 one can't be");
        Check.same("can't be", Texts.orders(x, "man 1 by 1"), -3);
        Check.same("tape", x.count(7), 0);
        Check.same("status", x.status(), -3);
        Check.same("once", x.count(10), 1);
        Check.same("not by what show() and the like answer", x.count(9), 0);
        Check.about("14: -6 (as for law())");
        Check.same("nothing", x.orders(), -6);
        Check.same("fault", x.fault(), 0);
        Check.same("blanks", Texts.orders(x, "    "), -6);
        Check.same("fault", x.fault(), 4);
        Check.same("not run as far as it can be read", Texts.orders(x, "man 0 by 1;man 0 by"), -6);
        Check.same("men", x.of(0, 0), 7);
        Check.same("tape", x.count(7), 0);
    }

    private static void fault() {
        Check.about("15: NONE without");
        OpenGates x = Lands.of(5, 0);
        Check.same("ahead of any", x.fault(), NONE);
        Texts.law(x, "bars x");
        Check.same("of a law", x.fault(), 5);
        Texts.orders(x, "man 0 by 1");
        Check.same("of orders that can be read", x.fault(), NONE);
        Texts.orders(x, "man x");
        Check.same("of orders", x.fault(), 4);
        Texts.orders(x, "man 9 by 1");
        Check.same("of orders that can't be", x.fault(), NONE);
        Check.about("15: of the latest that read a TEXT");
        for (int i = 0; i < 6; i++) {
            Texts.law(x, "bars");
        }
        Texts.orders(x, "man 0 x");
        Texts.law(x, "bars");
        Check.same("a law for which there is no room is not read", x.fault(), 6);
        x.row();
        Check.same("a row is no TEXT", x.fault(), 6);
    }

    private static void stopped() {
        Check.about("16: Which CLAUSE of the latest orders() could not be");
        OpenGates x = Lands.of(5, 0);
        Check.same("ahead of any", x.stopped(), NONE);
        Texts.orders(x, "man 9 by 1");
        Check.same("the first", x.stopped(), 0);
        Texts.orders(x, "man 0 by 1" + Texts.repeat(";man 0 by 1", 10) + ";man 0 by 99");
        Check.same("the twelfth", x.stopped(), 11);
        Texts.law(x, "bars");
        x.man(9, 1);
        Check.same("of the latest orders() still", x.stopped(), 11);
        Check.about("16: NONE");
        Texts.orders(x, "man 0 by 1");
        Check.same("all could be", x.stopped(), NONE);
        Texts.orders(x, "man 9 by 1");
        Texts.orders(x, "man 9");
        Check.same("what can't be read has none", x.stopped(), NONE);
    }

    private static void force() {
        Check.about("17: A LAW is in FORCE (NONE: none): which was");
        OpenGates x = new OpenGates();
        Check.same("none to none", x.force(NONE), NONE);
        Check.same("is not REFUSED", x.status(), 0);
        Check.same("is not REFUSED", x.count(8), 0);
        Texts.law(x, "turns 1");
        Texts.law(x, "turns 2");
        Check.same("none to 1", x.force(1), NONE);
        Check.same("1 to 0", x.force(0), 1);
        Check.same("0 to 0", x.force(0), 0);
        Check.about("17: -2");
        for (int law : new int[] {LEAST, -2, 2, 5, 6, MOST}) {
            Check.same("law " + law, x.force(law), -2);
            Check.same("status", x.status(), -2);
        }
        Check.same("as it was", x.count(13), 0);
        Check.same("0 to none", x.force(NONE), 0);
        Check.same("is not REFUSED", x.status(), 0);
        Check.same("none", x.count(13), NONE);
    }

    private static void show() {
        Check.about("18: To SHOW: what it PAYS");
        OpenGates x = Lands.of(1, 0, 1, 0);
        x.sign(0, 2, 0);
        x.sign(5, 2, 99);
        Check.same("nothing", x.show(0, 0), 0);
        Check.same("99", x.show(0, 5), 99);
        Check.about("18: -1");
        for (int sign : new int[] {LEAST, -1, 6, 32, MOST}) {
            Check.same("sign " + sign, x.show(0, sign), -1);
        }
        Check.about("18: -2");
        for (int fort : NO_FORT) {
            Check.same("fort " + fort, x.show(fort, 0), -2);
        }
        Check.about("18: -3");
        Check.same("shown", x.show(0, 5), -3);
        Check.same("as it was", x.of(0, 2), 33);
        Check.same("two to be undone", x.count(6), 2);
    }

    private static void hide() {
        Check.about("19: To HIDE: SHOWN then");
        OpenGates x = Lands.of(1, 0, 1, 0);
        for (int sign = 0; sign < 6; sign++) {
            x.show(0, sign);
        }
        for (int sign = 0; sign < 6; sign++) {
            Check.same("hide", x.hide(0, sign), 63 - (2 << sign) + 1);
        }
        Check.about("19: -1");
        for (int sign : new int[] {LEAST, -1, 6, 32, MOST}) {
            Check.same("sign " + sign, x.hide(0, sign), -1);
        }
        Check.about("19: -2");
        for (int fort : NO_FORT) {
            Check.same("fort " + fort, x.hide(fort, 0), -2);
        }
        Check.about("19: -3");
        Check.same("not shown", x.hide(0, 0), -3);
    }

    private static void man() {
        Check.about("20: To MAN: MEN then");
        OpenGates x = Lands.of(0, 0, 99, 0);
        Check.same("to 99", x.man(0, 99), 99);
        Check.same("to 0", x.man(1, -99), 0);
        Check.about("20: -1");
        for (int by : new int[] {LEAST, -100, 100, MOST}) {
            Check.same("by " + by, x.man(0, by), -1);
        }
        Check.about("20: -2");
        for (int fort : NO_FORT) {
            Check.same("fort " + fort, x.man(fort, 1), -2);
        }
        Check.about("20: -3");
        Check.same("too many", x.man(0, 1), -3);
        Check.same("too few", x.man(1, -1), -3);
        Check.same("as it was", x.of(0, 0), 99);
        Check.same("as it was", x.of(1, 0), 0);
    }

    private static void march() {
        Check.about("21: To MARCH: 0, 1, 2");
        OpenGates x = Lands.of(50, 0, 50, 0);
        Check.same("1", x.march(99, 0), 1);
        x.terms(1, 0);
        Check.same("0", x.march(50, 0), 0);
        Check.same("2", x.march(51, 1), 2);
        Check.about("21: -1");
        for (int army : new int[] {LEAST, -1, 0, 100, MOST}) {
            Check.same("army " + army, x.march(army, 0), -1);
        }
        Check.about("21: -2");
        for (int fort : NO_FORT) {
            Check.same("fort " + fort, x.march(1, fort), -2);
        }
        Check.about("21: -3");
        Check.same("taken", x.march(1, 1), -3);
        x.terms(0, 999);
        Check.same("the last day", x.march(1, 0), -3);
        Check.same("day", x.count(14), 999);
    }

    private static void undo() {
        Check.about("22: -3 there is none");
        OpenGates x = Lands.under("fame 9 if end=1;fame 0-9 if end=0", 30, 0, 30, 0);
        Check.same("none", x.undo(), -3);
        Check.about("22: is undone: 0 .. 3");
        x.fame(0, 95);
        x.show(0, 3);
        x.hide(0, 3);
        x.man(0, 9);
        x.march(9, 0);
        Check.same("fame", x.count(17), 100);
        Check.same("march", x.undo(), 3);
        Check.same("fame as it was, not 91", x.count(17), 95);
        Check.same("day", x.count(14), 0);
        Check.same("man", x.undo(), 2);
        Check.same("men", x.of(0, 0), 30);
        Check.same("hide", x.undo(), 1);
        Check.same("shown", x.of(0, 2), 8);
        Check.same("not taken by that", x.of(0, 3), 0);
        Check.same("show", x.undo(), 0);
        Check.same("shown", x.of(0, 2), 0);
        Check.same("none", x.undo(), -3);
        Check.about("22: 16 are kept");
        for (int i = 0; i < 16; i++) {
            x.man(0, 1);
        }
        Check.same("16", x.count(6), 16);
        x.man(1, 1);
        Check.same("16 still", x.count(6), 16);
        for (int i = 0; i < 16; i++) {
            Check.same("undo", x.undo(), 2);
            Check.same("men", x.of(0, 0), 46 - i);
            Check.same("men", x.of(1, 0), 30);
        }
        Check.same("the 17th from the end is not kept", x.undo(), -3);
        Check.same("men", x.of(0, 0), 31);
        Check.same("men", x.of(1, 0), 30);
        Check.about("22: by ORDERS, too");
        Texts.orders(x, "show 1 at 0;man 0 by 1 times 20");
        Check.same("16", x.count(6), 16);
        Check.same("undo", x.undo(), 2);
        Check.same("men", x.of(0, 0), 50);
        undoIsNotItselfUndone();
    }

    private static void undoIsNotItselfUndone() {
        Check.about("22: what was undone is not kept");
        OpenGates x = Lands.of(5, 0);
        x.man(0, 1);
        x.man(0, 2);
        x.undo();
        Check.same("one is left", x.count(6), 1);
        x.show(0, 0);
        Check.same("show", x.undo(), 0);
        Check.same("the first man", x.undo(), 2);
        Check.same("men", x.of(0, 0), 5);
        Check.about("22: calls that are REFUSED are not kept");
        x.man(0, 100);
        x.show(0, 9);
        x.hide(0, 0);
        x.march(0, 0);
        Check.same("none", x.undo(), -3);
    }

    private static void undoIsClosed() {
        Check.about("22: nothing that was ahead of a fort(), sign(), fame(), terms(), row() can be undone");
        for (int by = 0; by < 5; by++) {
            OpenGates x = Lands.of(5, 0);
            x.man(0, 1);
            change(x, by, true);
            Check.same("REFUSED: it can, " + by, x.count(6), 1);
            change(x, by, false);
            Check.same("not REFUSED: it can't, " + by, x.undo(), -3);
            x.man(0, 1);
            Check.same("what is behind can, " + by, x.undo(), 2);
            Check.same("men, " + by, x.of(0, 0), 6);
        }
        Check.about("22: other calls leave what can be undone");
        OpenGates x = Lands.of(5, 0, 5, 0);
        x.man(0, 1);
        x.road(0, 1, 1);
        Texts.law(x, "turns 1");
        x.force(0);
        x.siege(1, 1, 1);
        x.fire(1);
        x.needs(1, 1);
        x.counted(1, 1);
        x.forget();
        x.sieges(1, 60);
        x.image(0);
        Texts.orders(x, "man 1 by 1 if 1=2");
        Check.same("one", x.count(6), 1);
        Check.same("man", x.undo(), 2);
        Check.same("men", x.of(0, 0), 5);
    }

    private static void change(OpenGates x, int by, boolean refused) {
        int wrong = refused ? 1000 : 0;
        switch (by) {
            case 0 -> x.fort(wrong, 0);
            case 1 -> x.sign(0, 2, wrong);
            case 2 -> x.fame(0, wrong);
            case 3 -> x.terms(2, wrong);
            default -> {
                if (!refused) {
                    x.feed(-1, 0, 0, 0, 0);
                    x.end(1);
                }
                x.row();
            }
        }
    }

    private static void bluff() {
        Check.about("23: NONE (none makes it TURN; a FORT that is TAKEN)");
        OpenGates x = Lands.unbelieved(5, 0, 5, 0);
        Check.same("none makes it turn", x.bluff(0, 9, 0), NONE);
        Check.same("none makes it turn", x.bluff(0, 9, 1), NONE);
        x.march(99, 1);
        x.terms(1, 1000);
        Check.same("it turns by nothing", x.bluff(0, 9, 0), 0);
        Check.same("it turns by nothing", x.bluff(0, 9, 1), 0);
        Check.same("taken", x.bluff(1, 9, 0), NONE);
        Check.same("taken", x.bluff(1, 9, 1), NONE);
        Check.about("23: NONE");
        for (int army : new int[] {LEAST, -1, 0, 100, MOST}) {
            Check.same("army " + army, x.bluff(0, army, 0), NONE);
        }
        Check.same("army 1", x.bluff(0, 1, 0), 0);
        Check.same("army 99", x.bluff(0, 99, 0), 0);
        for (int what : new int[] {LEAST, -1, 2, MOST}) {
            Check.same("what " + what, x.bluff(0, 9, what), NONE);
        }
        for (int fort : NO_FORT) {
            Check.same("fort " + fort, x.bluff(fort, 9, 0), NONE);
        }
        Check.about("23: all six, 99 each");
        x = Lands.under("turns 100", 5, 0);
        x.fame(0, 100);
        for (int sign = 0; sign < 6; sign++) {
            x.sign(sign, 0, 10);
            x.sign(sign, 1, sign == 0 ? 0 : 9);
            x.sign(sign, 2, 99);
        }
        Check.same("what they pay", x.bluff(0, 9, 0), 594);
        Check.same("all", x.bluff(0, 9, 1), 63);
        Check.same("on paper", x.of(0, 2), 0);
    }

    private static void scout() {
        Check.about("24: NONE");
        OpenGates x = Lands.of(5, 0, 5, 0);
        for (int what : new int[] {LEAST, -1, 2, MOST}) {
            Check.same("what " + what, x.scout(0, what), NONE);
        }
        for (int fort : NO_FORT) {
            Check.same("fort " + fort, x.scout(fort, 0), NONE);
        }
        Check.about("24: by how much BELIEF differs");
        x.fame(0, 100);
        x.sign(1, 0, 10);
        x.sign(1, 1, 0);
        Check.same("the sign", x.scout(0, 0), 1);
        Check.same("by all", x.scout(0, 1), 1000000);
        Check.same("on paper", x.of(0, 2), 0);
        x.terms(1, 0);
        Check.same("by nothing: the lowest", x.scout(0, 0), 0);
        Check.same("by nothing", x.scout(0, 1), 0);
    }

    private static void holds() {
        Check.about("25: HOLDING against n armies 0 .. 30");
        OpenGates x = Lands.unbelieved(89, 0, 5, 0);
        Check.same("0", x.holds(0, 0), 1000000000000L);
        Check.same("1", x.holds(0, 1), 900000000000L);
        Check.same("30", x.holds(0, 30), 42391158272L);
        for (int n : new int[] {LEAST, -1, 31, MOST}) {
            Check.same("n " + n, x.holds(0, n), NONE);
        }
        Check.about("25: NONE (no such FORT, TAKEN)");
        for (int fort : NO_FORT) {
            Check.same("fort " + fort, x.holds(fort, 0), NONE);
        }
        x.march(99, 1);
        Check.same("taken", x.holds(1, 0), NONE);
        Check.same("taken", x.holds(1, 30), NONE);
    }

    private static void retreat() {
        Check.about("26: HOURS (i NONE), the i-th FORT that is come to");
        OpenGates x = Lands.of(1, 0, 1, 0);
        x.road(0, 1, 99);
        Check.same("hours", x.retreat(0, 1, NONE), 99);
        Check.same("the first is the end", x.retreat(0, 1, 0), 1);
        for (int i : new int[] {LEAST, -2, 1, 5, MOST}) {
            Check.same("i " + i, x.retreat(0, 1, i), NONE);
        }
        for (int fort : NO_FORT) {
            Check.same("to " + fort, x.retreat(0, fort, NONE), NONE);
            Check.same("from " + fort, x.retreat(fort, 0, NONE), NONE);
        }
        Check.about("26: NONE (no way; one FORT)");
        Check.same("one fort", x.retreat(1, 1, NONE), NONE);
        Check.same("one fort", x.retreat(1, 1, 0), NONE);
        x.road(0, 1, 0);
        Check.same("no way", x.retreat(0, 1, NONE), NONE);
        Check.same("no way", x.retreat(0, 1, 0), NONE);
        Check.about("26: the longest way");
        x = Lands.of(1, 0, 1, 0, 1, 0, 1, 0, 1, 0, 1, 0);
        for (int fort = 0; fort < 5; fort++) {
            x.road(fort, fort + 1, 99);
        }
        Check.same("hours", x.retreat(0, 5, NONE), 495);
        Check.same("the last", x.retreat(0, 5, 4), 5);
        Check.same("no more", x.retreat(0, 5, 5), NONE);
    }

    private static void game() {
        Check.about("27: NOTHING");
        OpenGates x = new OpenGates();
        for (int entry : new int[] {LEAST, -100, 100, MOST}) {
            for (int what = 0; what < 4; what++) {
                Check.same("a0 " + entry, x.game(entry, 0, 0, 0, what), NOTHING);
                Check.same("a1 " + entry, x.game(0, entry, 0, 0, what), NOTHING);
                Check.same("b0 " + entry, x.game(0, 0, entry, 0, what), NOTHING);
                Check.same("b1 " + entry, x.game(0, 0, 0, entry, what), NOTHING);
            }
        }
        for (int what : new int[] {LEAST, -1, 4, MOST}) {
            Check.same("what " + what, x.game(0, 0, 0, 0, what), NOTHING);
        }
        Check.same("it is not REFUSED", x.count(8), 0);
        Check.same("the least entries", x.game(-99, -99, -99, -99, 2), -99);
        Check.same("-1 is an answer", x.game(-1, -1, -1, -1, 2), -1);
    }

    private static void siege() {
        Check.about("28: A SIEGE: its number");
        OpenGates x = new OpenGates();
        for (int k = 0; k < 8; k++) {
            Check.same("siege", x.siege(k % 2 * 99, k % 2 * 10, k % 2 * 999), k);
        }
        Check.about("28: -5");
        Check.same("no room", x.siege(0, 0, 0), -5);
        Check.same("as many", x.count(2), 8);
        Check.about("28: -1");
        x = new OpenGates();
        for (int wrong : new int[] {LEAST, -1, 1000, MOST}) {
            Check.same("cost " + wrong, x.siege(wrong, 0, 0), -1);
            Check.same("name " + wrong, x.siege(0, wrong, 0), -1);
            Check.same("gain " + wrong, x.siege(0, 0, wrong), -1);
        }
        Check.same("cost 100", x.siege(100, 0, 0), -1);
        Check.same("name 11", x.siege(0, 11, 0), -1);
        Check.same("none came", x.count(2), 0);
    }

    private static void career() {
        Check.about("29: A CAREER with a NAME 0 .. 10");
        OpenGates x = new OpenGates();
        x.siege(7, 10, 9);
        Check.same("0", x.career(0, 0), -7);
        Check.same("10", x.career(10, 0), 9);
        for (int name : new int[] {LEAST, -1, 11, MOST}) {
            Check.same("name " + name, x.career(name, 0), NOTHING);
            Check.same("name " + name, x.career(name, 1), NOTHING);
        }
        Check.about("29: what is done in SIEGE k (1 + k)");
        Check.same("siege 0", x.career(0, 1), 0);
        Check.same("siege 0", x.career(10, 1), 1);
        Check.about("29: NOTHING");
        for (int what : new int[] {LEAST, -1, 2, 9, MOST}) {
            Check.same("what " + what, x.career(0, what), NOTHING);
        }
        x = new OpenGates();
        Check.same("no sieges: nothing is lost", x.career(0, 0), 0);
        Check.same("no sieges: none is done", x.career(0, 1), NOTHING);
        x.siege(1, 10, 1);
        Check.same("-1 is an answer", x.career(0, 0), -1);
    }

    private static void fire() {
        Check.about("30: A FIRE: its number");
        OpenGates x = new OpenGates();
        for (int i = 0; i < 10; i++) {
            Check.same("fire", x.fire(i % 2 * 63), i);
        }
        Check.about("30: -5");
        Check.same("no room", x.fire(0), -5);
        Check.same("as many", x.count(3), 10);
        Check.about("30: -1 (HILLS 0 .. 63)");
        x = new OpenGates();
        for (int hills : new int[] {LEAST, -1, 64, MOST}) {
            Check.same("hills " + hills, x.fire(hills), -1);
        }
        Check.same("none came", x.count(3), 0);
    }

    private static void needs() {
        Check.about("31: NEEDS of a HILL: what they were");
        OpenGates x = new OpenGates();
        Check.same("0", x.needs(5, 9), 0);
        Check.same("9", x.needs(5, 0), 9);
        Check.same("0", x.needs(5, 0), 0);
        Check.same("another one's", x.needs(0, 1), 0);
        Check.about("31: -1");
        for (int wrong : new int[] {LEAST, -1, 10, MOST}) {
            Check.same("hill " + wrong, x.needs(wrong, 0), -1);
            Check.same("value " + wrong, x.needs(0, wrong), -1);
        }
        Check.same("hill 6", x.needs(6, 0), -1);
        Check.same("as it was", x.needs(0, 1), 1);
    }

    private static void enough() {
        Check.about("32: how many FIRES (what 0), which, as bits (1)");
        OpenGates x = new OpenGates();
        for (int i = 0; i < 10; i++) {
            x.fire(i == 9 ? 32 : 0);
        }
        Check.same("none needed", x.enough(0), 0);
        Check.same("none needed", x.enough(1), 0);
        x.needs(5, 1);
        Check.same("the tenth", x.enough(0), 1);
        Check.same("the tenth", x.enough(1), 512);
        Check.about("32: NONE (not by all)");
        x.needs(5, 2);
        Check.same("not by all", x.enough(0), NONE);
        Check.same("not by all", x.enough(1), NONE);
        x.needs(5, 0);
        for (int what : new int[] {LEAST, -1, 2, MOST}) {
            Check.same("what " + what, x.enough(what), NONE);
        }
    }

    private static void counted() {
        Check.about("33: COUNTED from a HILL: how often there was");
        OpenGates x = new OpenGates();
        for (int i = 1; i <= 8; i++) {
            Check.same("counted", x.counted(i % 6, i), i);
        }
        Check.about("33: -5");
        Check.same("no room", x.counted(0, 0), -5);
        Check.same("as many", x.count(4), 8);
        Check.about("33: -1");
        x = new OpenGates();
        for (int wrong : new int[] {LEAST, -1, 10, MOST}) {
            Check.same("hill " + wrong, x.counted(wrong, 0), -1);
            Check.same("many " + wrong, x.counted(0, wrong), -1);
        }
        Check.same("hill 6", x.counted(6, 0), -1);
        Check.same("none came", x.count(4), 0);
    }

    private static void forget() {
        Check.about("34: SIEGES, FIRES, COUNTED are none then: how many there were together");
        OpenGates x = Lands.of(1, 0);
        Check.same("none", x.forget(), 0);
        for (int i = 0; i < 10; i++) {
            x.siege(1, 1, 1);
            x.fire(1);
            x.counted(0, 9);
        }
        x.needs(0, 1);
        Check.same("all of them", x.forget(), 26);
        Check.same("sieges", x.count(2), 0);
        Check.same("fires", x.count(3), 0);
        Check.same("counted", x.count(4), 0);
        Check.same("none any more", x.forget(), 0);
        Check.same("career", x.career(0, 1), NOTHING);
        Check.same("fits", x.fits(NONE), 1);
        Check.same("fires from 0 on", x.fire(0), 0);
        Check.same("sieges from 0 on", x.siege(0, 0, 0), 0);
        Check.same("counted from 1 on", x.counted(0, 0), 1);
        Check.same("the new fire is not seen from the old hill", x.enough(0), NONE);
        Check.same("needs stay", x.needs(0, 0), 1);
        Check.same("forts stay", x.count(0), 1);
    }

    private static void fits() {
        Check.about("35: how many sets (i NONE), the i-th, as bits");
        OpenGates x = new OpenGates();
        Check.same("the empty one", x.fits(NONE), 1);
        Check.same("the empty one", x.fits(0), 0);
        x.fire(1);
        x.fire(1);
        x.counted(0, 1);
        Check.same("two", x.fits(NONE), 2);
        Check.same("the first", x.fits(0), 1);
        Check.same("the second", x.fits(1), 2);
        Check.about("35: NONE");
        for (int i : new int[] {LEAST, -2, 2, 1023, 1024, MOST}) {
            Check.same("i " + i, x.fits(i), NONE);
        }
        x.counted(0, 2);
        Check.same("none fits: 0 sets", x.fits(NONE), 0);
        Check.same("none fits", x.fits(0), NONE);
    }

    private static void next() {
        Check.about("36: NONE (none is FITTING)");
        OpenGates x = new OpenGates();
        x.counted(5, 1);
        Check.same("none", x.next(0), NONE);
        Check.same("none", x.next(1), NONE);
        x.forget();
        for (int what : new int[] {LEAST, -1, 2, MOST}) {
            Check.same("what " + what, x.next(what), NONE);
        }
        Check.about("36: how many sets are left at most");
        for (int i = 0; i < 10; i++) {
            x.fire(32);
        }
        Check.same("hill 5", x.next(0), 5);
        Check.same("five of ten", x.next(1), 252);
        x.counted(5, 9);
        Check.same("all show alike then: the lowest", x.next(0), 0);
        Check.same("ten", x.next(1), 10);
    }

    private static void sieges() {
        Check.about("37: -1; -3 there are no FORTS");
        OpenGates x = new OpenGates();
        Check.same("no forts", x.sieges(0, 1), -3);
        Check.same("no forts", x.sieges(1000000, 60), -3);
        for (int seed : new int[] {LEAST, -1, 1000001, MOST}) {
            Check.same("seed " + seed, x.sieges(seed, 1), -1);
        }
        for (int n : new int[] {LEAST, -1, 0, 61, MOST}) {
            Check.same("n " + n, x.sieges(0, n), -1);
        }
        Check.about("37: how many armies TURNED");
        x.fort(0, 0);
        Check.same("one", x.sieges(0, 1), 1);
        Check.same("sixty", x.sieges(1000000, 60), 60);
        x.terms(1, 0);
        Check.same("none", x.sieges(1000000, 60), 0);
        Check.about("37: kept as the latest");
        Check.same("taken", x.drawn(0, 1), 1);
        x.terms(1, 1000);
        x.sieges(1, 1);
        Check.same("not taken", x.drawn(0, 1), 0);
    }

    private static void drawn() {
        Check.about("38: NONE");
        OpenGates x = Lands.of(5, 0, 5, 0);
        Check.same("none yet", x.drawn(0, 0), NONE);
        Check.same("none yet", x.drawn(0, 3), NONE);
        x.sieges(0, 0);
        Check.same("one that was REFUSED", x.drawn(0, 0), NONE);
        x.sieges(0, 1);
        for (int fort : NO_FORT) {
            for (int what = 0; what < 3; what++) {
                Check.same("fort " + fort, x.drawn(fort, what), NONE);
            }
        }
        for (int general : new int[] {LEAST, -1, 4, MOST}) {
            Check.same("general " + general, x.drawn(general, 3), NONE);
        }
        for (int what : new int[] {LEAST, -1, 4, MOST}) {
            Check.same("what " + what, x.drawn(0, what), NONE);
        }
        Check.about("38: FAME of GENERAL k");
        for (int general = 0; general < 4; general++) {
            Check.same("general " + general, x.drawn(general, 3), 50);
        }
        Check.about("38: Behind the latest SIEGES by draws");
        x.man(0, 9);
        x.fame(0, 9);
        x.fort(1, 1);
        Check.same("men as they were", x.drawn(0, 0), 5);
        Check.same("fame as it was", x.drawn(0, 3), 50);
        Check.same("no fort that came later", x.drawn(2, 0), NONE);
        x.sieges(0, 61);
        Check.same("one that was REFUSED is not the latest", x.drawn(0, 0), 5);
        x.sieges(0, 1);
        Check.same("the latest", x.drawn(2, 0), 1);
    }

    private static void image() {
        Check.about("39: IMAGE k is kept: 0; -1");
        OpenGates x = new OpenGates();
        for (int k : new int[] {LEAST, -1, 2, MOST}) {
            Check.same("k " + k, x.image(k), -1);
        }
        Check.same("none was kept", x.back(0), -2);
        Check.same("0", x.image(0), 0);
        Check.same("the other was not kept", x.back(1), -2);
        Check.same("1", x.image(1), 0);
        Check.same("again", x.image(0), 0);
    }

    private static void back() {
        Check.about("40: -1; -2 it was not kept");
        OpenGates x = Lands.of(5, 0);
        for (int k : new int[] {LEAST, -1, 2, MOST}) {
            Check.same("k " + k, x.back(k), -1);
        }
        Check.same("0", x.back(0), -2);
        Check.same("1", x.back(1), -2);
        x.man(0, 1);
        x.back(0);
        Check.same("REFUSED: what can be undone stays", x.undo(), 2);
        Check.about("40: BACK to IMAGE k: 0");
        x.image(1);
        x.man(0, 4);
        Check.same("back", x.back(1), 0);
        Check.same("men", x.of(0, 0), 5);
        Check.same("back again", x.back(1), 0);
        Check.same("the other was not kept", x.back(0), -2);
    }

    private static void count() {
        Check.about("41: NONE for others");
        OpenGates x = new OpenGates();
        for (int what : new int[] {LEAST, -1, 21, 22, MOST}) {
            Check.same("what " + what, x.count(what), NONE);
        }
        Check.about("41: 1 how many are TAKEN");
        x = Lands.unbelieved(0, 0, 0, 0, 0, 0, 0, 0, 0, 0, 0, 0);
        for (int fort = 0; fort < 6; fort++) {
            Check.same("taken", x.count(1), fort);
            x.march(1, fort);
        }
        Check.same("all", x.count(1), 6);
        x.undo();
        Check.same("one less", x.count(1), 5);
        Check.about("41: how many calls were REFUSED (IMAGES do not keep that)");
        x = new OpenGates();
        x.image(0);
        x.fort(100, 0);
        x.force(0);
        x.force(1);
        x.undo();
        x.undo();
        x.undo();
        for (int i = 0; i < 14; i++) {
            x.fire(1);
        }
        for (int i = 0; i < 5; i++) {
            x.row();
        }
        for (int time = 0; time < 2; time++) {
            for (int what = 8; what <= 12; what++) {
                Check.same("count(" + what + ")", x.count(what), what - 7);
            }
            x.back(0);
        }
        Check.same("fires are as they were", x.count(3), 0);
    }

    private static void status() {
        Check.about("42: 0 ahead of any");
        OpenGates x = new OpenGates();
        Check.same("ahead of any", x.status(), 0);
        x.of(9, 9);
        x.asks(9, 9, 9);
        x.end(-1);
        x.career(99, 0);
        Check.same("ahead of any of those calls", x.status(), 0);
        Check.about("42: 0 if it was not");
        x.fort(100, 0);
        Check.same("REFUSED", x.status(), -1);
        x.forget();
        x.of(0, 0);
        x.feed(0, 0, 0, 0, 0);
        x.end(0);
        x.brooms();
        x.fault();
        x.stopped();
        x.bluff(0, 1, 0);
        x.scout(0, 0);
        x.holds(0, 0);
        x.retreat(0, 0, 0);
        x.game(0, 0, 0, 0, 0);
        x.career(0, 0);
        x.enough(0);
        x.fits(0);
        x.next(0);
        x.drawn(0, 0);
        x.count(0);
        Check.same("other calls leave it", x.status(), -1);
        Check.same("a second time", x.status(), -1);
        x.fort(1, 0);
        Check.same("not REFUSED", x.status(), 0);
    }
}
