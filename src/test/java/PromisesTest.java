/** Promises 1 to 42 one by one: ordinary inputs, the edges the document names, wrong inputs. */
public final class PromisesTest {
    private static final int NONE = OpenGates.NONE;
    private static final int NOTHING = OpenGates.NOTHING;

    public static void main(String[] args) {
        aNewObject();
        forts();
        ofForts();
        signs();
        roads();
        fames();
        asking();
        terms();
        tape();
        rows();
        laws();
        lawFaults();
        lawWords();
        sums();
        tests();
        orders();
        orderWords();
        orderFaults();
        ordersUndone();
        faultAndStopped();
        forces();
        showing();
        hiding();
        manning();
        marching();
        undoing();
        bluffs();
        scouts();
        holding();
        retreats();
        games();
        careers();
        fires();
        counting();
        forgetting();
        siegesByDraws();
        images();
        counts();
        statuses();
        Check.finish();
    }

    private static void aNewObject() {
        Check.about("promise 1");
        OpenGates x = new OpenGates();
        Check.same("NONE", OpenGates.NONE, -1);
        Check.same("NOTHING", OpenGates.NOTHING, -100000);
        int[] due = {0, 0, 0, 0, 0, 0, 0, 0, 0, 0, 0, 0, 0, -1, 0, 500, 0, 50, 50, 50, 50};
        for (int what = 0; what < due.length; what++) {
            Check.same("count(" + what + ")", x.count(what), due[what]);
        }
        Check.same("status", x.status(), 0);
        Check.same("brooms", x.brooms(), 0);
        Check.same("fault", x.fault(), NONE);
        Check.same("stopped", x.stopped(), NONE);
        for (int sign = 0; sign < 6; sign++) {
            Check.same("FULL", x.sign(sign, 0, 5), 5);
            Check.same("EMPTY", x.sign(sign, 1, 5), 5);
            Check.same("PRICE", x.sign(sign, 2, 1), 1);
            Check.same("NEEDS", x.needs(sign, 0), 0);
        }
    }

    private static void forts() {
        Check.about("promise 2");
        OpenGates x = new OpenGates();
        Check.same("too few men", x.fort(-1, 0), -1);
        Check.same("too many men", x.fort(100, 0), -1);
        Check.same("general below", x.fort(0, -1), -1);
        Check.same("general above", x.fort(0, 4), -1);
        Check.same("none came", x.count(0), 0);
        for (int i = 0; i < 6; i++) {
            Check.same("fort", x.fort(i == 5 ? 99 : i, i % 4), i);
        }
        Check.same("no room", x.fort(0, 0), -5);
        Check.same("can't be ahead of no room", x.fort(100, 0), -1);
        Check.same("forts", x.count(0), 6);
    }

    private static void ofForts() {
        Check.about("promise 3");
        OpenGates x = Lands.of(7, 3, 99, 0);
        Check.same("men", x.of(0, 0), 7);
        Check.same("general", x.of(0, 1), 3);
        Check.same("shown", x.of(0, 2), 0);
        Check.same("taken", x.of(0, 3), 0);
        Check.same("belief", x.of(0, 4), 500000);
        Check.same("what above", x.of(0, 5), NONE);
        Check.same("what below", x.of(0, -1), NONE);
        Check.same("no fort", x.of(2, 0), NONE);
        Check.same("fort below", x.of(-1, 0), NONE);
        x.show(0, 5);
        x.show(0, 0);
        Check.same("shown as bits", x.of(0, 2), 33);
        Check.same("of the other", x.of(1, 2), 0);
        beliefs();
    }

    private static void beliefs() {
        OpenGates x = Lands.of(7, 3);
        x.terms(1, 333);
        Check.same("even", x.of(0, 4), 333000);
        x.fame(3, 100);
        x.sign(2, 0, 10);
        x.sign(2, 1, 1);
        Check.same("full shows it always", x.of(0, 4), 0);
        x.show(0, 2);
        // 333 * 10 / (333 * 10 + 667 * 1) = 3330 / 3997
        Check.same("by signs alone", x.of(0, 4), 833124);
        x.fame(3, 1);
        // (833124 + 99 * 333000) / 100
        Check.same("nearly without fame", x.of(0, 4), 338001);
        x.fame(3, 0);
        Check.same("without fame", x.of(0, 4), 333000);
        x.fame(3, 100);
        x.sign(2, 0, 0);
        x.sign(2, 1, 0);
        Check.same("both 0: even", x.of(0, 4), 333000);
        x.terms(1, 0);
        Check.same("prior 0", x.of(0, 4), 0);
        x.sign(2, 0, 1);
        x.terms(1, 1000);
        Check.same("prior 1000", x.of(0, 4), 1000000);
        x.sign(2, 0, 0);
        x.sign(2, 1, 9);
        Check.same("none by full, none by prior", x.of(0, 4), 1000000);
    }

    private static void signs() {
        Check.about("promise 4");
        OpenGates x = new OpenGates();
        int[] most = {10, 10, 99};
        int[] first = {5, 5, 1};
        for (int what = 0; what < 3; what++) {
            Check.same("at first", x.sign(5, what, most[what]), first[what]);
            Check.same("then", x.sign(5, what, 0), most[what]);
            Check.same("other sign", x.sign(4, what, first[what]), first[what]);
            Check.same("value above", x.sign(5, what, most[what] + 1), -1);
            Check.same("value below", x.sign(5, what, -1), -1);
            Check.same("as it was", x.sign(5, what, 0), 0);
        }
        Check.same("what above", x.sign(0, 3, 0), -1);
        Check.same("what below", x.sign(0, -1, 0), -1);
        Check.same("sign above", x.sign(6, 0, 0), -1);
        Check.same("sign below", x.sign(-1, 0, 0), -1);
    }

    private static void roads() {
        Check.about("promise 5");
        OpenGates x = Lands.of(1, 0, 2, 0);
        Check.same("first", x.road(0, 1, 99), 0);
        Check.same("both ways", x.road(1, 0, 0), 99);
        Check.same("none", x.road(0, 1, 5), 0);
        Check.same("hours above", x.road(0, 1, 100), -1);
        Check.same("hours below", x.road(0, 1, -1), -1);
        Check.same("alike", x.road(1, 1, 5), -1);
        Check.same("alike ahead of no such", x.road(3, 3, 5), -1);
        Check.same("no such", x.road(0, 2, 5), -2);
        Check.same("no such", x.road(2, 0, 5), -2);
        Check.same("hours ahead of no such", x.road(2, 0, 100), -1);
        Check.same("as it was", x.road(0, 1, 5), 5);
    }

    private static void fames() {
        Check.about("promise 6");
        OpenGates x = new OpenGates();
        Check.same("at first", x.fame(3, 100), 50);
        Check.same("then", x.fame(3, 0), 100);
        Check.same("then", x.count(20), 0);
        Check.same("above", x.fame(0, 101), -1);
        Check.same("below", x.fame(0, -1), -1);
        Check.same("general above", x.fame(4, 1), -1);
        Check.same("general below", x.fame(-1, 1), -1);
        Check.same("as it was", x.count(17), 50);
    }

    private static void asking() {
        Check.about("promise 7");
        OpenGates x = Lands.under("pays 100 if sign = 1;pays 0 - 1 if sign = 2;turns 101 if army = 2;"
            + "turns 0 - 5 if army = 3;turns 60 if army = 4;bars if sign = 3", 5, 0);
        x.sign(0, 2, 42);
        Check.same("price", x.asks(0, 0, 0), 42);
        Check.same("at most 99", x.asks(0, 1, 0), 99);
        Check.same("at least 0", x.asks(0, 2, 0), 0);
        Check.same("barred", x.asks(0, 3, 1), 1);
        Check.same("not barred", x.asks(0, 4, 1), 0);
        Check.same("50 without", x.asks(0, 1, 2), 50);
        Check.same("at most 100", x.asks(0, 2, 2), 100);
        Check.same("at least 0", x.asks(0, 3, 2), 0);
        Check.same("as told", x.asks(0, 4, 2), 60);
        Check.same("turns at 50", x.asks(0, 1, 3), 1);
        Check.same("does not at 100", x.asks(0, 2, 3), 0);
        Check.same("turns at 0", x.asks(0, 3, 3), 1);
        Check.same("does not at 60", x.asks(0, 4, 3), 0);
        Check.same("sign above", x.asks(0, 6, 0), NONE);
        Check.same("sign below", x.asks(0, -1, 1), NONE);
        Check.same("army 0", x.asks(0, 0, 2), NONE);
        Check.same("army 100", x.asks(0, 100, 3), NONE);
        Check.same("army 99", x.asks(0, 99, 3), 1);
        Check.same("what above", x.asks(0, 1, 4), NONE);
        Check.same("what below", x.asks(0, 1, -1), NONE);
        Check.same("no fort", x.asks(1, 1, 0), NONE);
        x.terms(1, 499);
        Check.same("49.9 hundredths are less than 50", x.asks(0, 1, 3), 0);
    }

    private static void terms() {
        Check.about("promise 8");
        OpenGates x = new OpenGates();
        int[] most = {999, 1000, 9};
        int[] first = {0, 500, 0};
        for (int what = 0; what < 3; what++) {
            Check.same("at first", x.terms(what, most[what]), first[what]);
            Check.same("above", x.terms(what, most[what] + 1), -1);
            Check.same("below", x.terms(what, -1), -1);
            Check.same("then", x.terms(what, 1), most[what]);
            Check.same("count", x.count(14 + what), 1);
        }
        Check.same("what above", x.terms(3, 0), -1);
        Check.same("what below", x.terms(-1, 0), -1);
    }

    private static void tape() {
        Check.about("promises 9, 10");
        OpenGates x = new OpenGates();
        for (int i = 1; i <= 20; i++) {
            Check.same("feed", x.feed(0, 0, 0, 0, 0), 20 * i);
        }
        Check.same("too many", x.feed(0, 0, 0, 0, 0), NONE);
        Check.same("as it was", x.count(7), 400);
        Check.same("not so many", x.end(401), NONE);
        Check.same("below 0", x.end(-1), NONE);
        Check.same("all", x.end(400), 400);
        Check.same("one less", x.end(381), 381);
        Check.same("just too many", x.feed(0, 0, 0, 0, 0), NONE);
        Check.same("one less", x.end(380), 380);
        Check.same("just fits", x.feed(0, 0, 0, 0, 0), 400);
        Check.same("none", x.end(0), 0);
        Check.same("status is not for these", x.status(), 0);
        x.feed(0x01020303, 0x04000500, 0x06000700, 0x08000900, 0x0A000B00);
        x.end(4);
        x.feed(0x0C010000, 0, 0, 0, 0);
        x.end(6);
        Check.same("row", x.row(), 3);
        Check.same("highest first", x.of(0, 0), 1);
        Check.same("highest first", x.of(0, 1), 2);
        Check.same("highest first", x.of(1, 0), 3);
        Check.same("behind", x.of(2, 0), 12);
        Check.same("behind", x.of(2, 1), 1);
    }

    private static void rows() {
        Check.about("promises 11, 12");
        OpenGates x = new OpenGates();
        Check.same("empty", x.row(), -6);
        Check.same("no brooms", x.brooms(), 0);
        x.feed(0x63036400, 0x0004FF00, 0x00FF0100, 0x02000300, 0x04000500);
        Check.same("forts", x.row(), 6);
        Check.same("brooms", x.brooms(), 4);
        Check.same("tape", x.count(7), 0);
        Check.same("99 men", x.of(0, 0), 99);
        Check.same("general 3", x.of(0, 1), 3);
        Check.same("the next that can be", x.of(1, 0), 1);
        Check.same("empty", x.row(), -6);
        Check.same("of the latest not refused", x.brooms(), 4);
        x.feed(0, 0, 0, 0, 0);
        x.end(3);
        Check.same("no room", x.row(), 0);
        Check.same("no room, and one byte", x.brooms(), 2);
    }

    private static void laws() {
        Check.about("promise 13");
        OpenGates x = new OpenGates();
        Check.same("empty", x.law(), -6);
        Check.same("fault", x.fault(), 0);
        Check.same("blanks", Texts.law(x, "   "), -6);
        Check.same("fault", x.fault(), 3);
        Check.same("blanks behind", Texts.law(x, "turns  "), -6);
        Check.same("fault", x.fault(), 7);
        for (int i = 0; i < 6; i++) {
            Check.same("law", Texts.law(x, "bars"), i);
            Check.same("tape", x.count(7), 0);
            Check.same("fault", x.fault(), NONE);
        }
        Check.same("laws", x.count(5), 6);
        Texts.law(x, "bars");
        Texts.orders(x, "x");
        Check.same("fault", x.fault(), 0);
        Check.same("no room, ahead of reading", Texts.law(x, " bar"), -5);
        Check.same("nothing was read", x.fault(), 0);
        Check.same("tape", x.count(7), 0);
    }

    private static void fails(boolean law, String text, int place) {
        OpenGates x = new OpenGates();
        Check.same("REFUSED: " + text, law ? Texts.law(x, text) : Texts.orders(x, text), -6);
        Check.same("FAULT: " + text, x.fault(), place);
        Check.same("tape: " + text, x.count(7), 0);
    }

    private static void reads(boolean law, String text) {
        OpenGates x = new OpenGates();
        int answer = law ? Texts.law(x, text) : Texts.orders(x, text);
        Check.isTrue("read: " + text + " " + answer, answer != -6);
        Check.same("FAULT: " + text, x.fault(), NONE);
    }

    private static void lawFaults() {
        Check.about("promises 13, 15");
        reads(true, " turns1+2*3if not(men=1)and day<3 ; bars ; fame[[1]] ");
        reads(true, "turns 0000000000000000000001000");
        fails(true, "turns 1001", 6);
        fails(true, "turns 99999999999999999999", 6);
        fails(true, "Turns 1", 0);
        fails(true, "barsz", 0);
        fails(true, "abars", 0);
        fails(true, "turns 1{", 7);
        fails(true, "turns 1`", 7);
        fails(true, "turns 1:", 7);
        fails(true, "turns 1;", 8);
        fails(true, "turns 1;;bars", 8);
        fails(true, "turns 1 1", 8);
        fails(true, "turns 1 and 1", 8);
        fails(true, "turns -1", 6);
        fails(true, "turns (1)", 6);
        fails(true, "turns [1)", 8);
        fails(true, "turns [men = 1]", 11);
        fails(true, "bars iff 1 = 1", 5);
        fails(true, "bars if 1 = 1 = 1", 14);
        fails(true, "bars if (1 = 1", 14);
        fails(true, "bars if (1 = 1]", 14);
        fails(true, "bars if (1)", 10);
        fails(true, "bars if [1 = 1]", 11);
        fails(true, "bars if not", 11);
        fails(true, "bars if 1 = 1 or", 16);
        fails(true, "bars if 1 = 1 or or", 17);
        fails(true, "bars if 1 <> 1", 11);
        fails(true, "bars if done = 1", 8);
        fails(true, "bars if shown 1 = 1", 8);
        fails(true, "bars if men 1 = 1", 12);
        fails(true, "show 1 at 1", 0);
        fails(true, "bars\tif 1 = 1", 4);
        fails(true, "bars" + (char) 0, 4);
        fails(true, "bars" + (char) 160, 4);
        fails(true, "turns 1+", 8);
        fails(true, "turns fame", 6);
        reads(true, "bars" + Texts.repeat(";bars", 11));
        fails(true, "bars" + Texts.repeat(";bars", 12), 60);
        fails(true, "bars" + Texts.repeat(";bars", 11) + ";", 60);
        fails(true, "bars" + Texts.repeat(";bars", 11) + ";?", 60);
        reads(true, "turns 1" + Texts.repeat("+1", 49));
        fails(true, "turns 1" + Texts.repeat("+1", 50), 106);
        fails(true, "turns 1" + Texts.repeat("+1", 49) + "+men", 106);
        fails(true, "turns 1" + Texts.repeat("+1", 30) + ";pays 1" + Texts.repeat("+1", 20), 7 + 60 + 6 + 2 * 19);
        reads(true, "turns " + Texts.repeat("[", 8) + "1" + Texts.repeat("]", 8) + "+[1]");
        fails(true, "turns " + Texts.repeat("[", 9) + "1" + Texts.repeat("]", 9), 14);
        reads(true, "bars if " + Texts.repeat("(", 4) + Texts.repeat("[", 4) + "1" + Texts.repeat("]", 4) + "=1" + Texts.repeat(")", 4));
        fails(true, "bars if " + Texts.repeat("(", 4) + Texts.repeat("[", 5) + "1" + Texts.repeat("]", 5) + "=1" + Texts.repeat(")", 4), 16);
        fails(true, "bars if " + Texts.repeat("(", 9) + "1=1" + Texts.repeat(")", 9), 16);
        reads(true, "bars if " + Texts.repeat("not ", 90) + "1 = 1");
        fails(true, "bars if " + Texts.repeat("not ", 98), 400);
    }

    private static void lawWords() {
        Check.about("the words of laws");
        OpenGates x = Lands.under("pays fort+10*men if sign=0;pays general if sign=1;pays known if sign=2;"
            + "pays 0-sign*army*belief*end if sign=3;pays day if sign=4;pays mood if sign=5;"
            + "turns fort+general+known-sign*10", 0, 0, 7, 3);
        x.fame(3, 33);
        x.terms(0, 21);
        x.terms(2, 9);
        int[] pays = {71, 3, 33, 3, 21, 9};
        for (int sign = 0; sign < 6; sign++) {
            Check.same("pays " + sign, x.asks(1, sign, 0), pays[sign]);
        }
        Check.same("turns", x.asks(1, 50, 2), 1 + 3 + 33 + 10);
        x = Lands.under("turns army+belief-end;fame 0-belief/3;fame end*army if end>0", 6, 2);
        Check.same("belief in hundredths", x.asks(0, 7, 2), 58);
        x.terms(1, 999);
        Check.same("cut", x.asks(0, 7, 2), 100);
        x.terms(1, 299);
        Check.same("cut", x.asks(0, 7, 2), 7 + 29 + 1);
        Check.same("march", x.march(6, 0), 0);
        Check.same("fame less by 29 / 3", x.count(19), 41);
        Check.same("men less by a third", x.of(0, 0), 4);
        Check.same("march", x.march(5, 0), 2);
        Check.same("fame more by 10", x.count(19), 51);
    }

    /** What a sum is worth as "pays" on top of 50; NONE, where it is BROKEN. */
    private static int worth(String sum) {
        OpenGates x = Lands.under("pays 50+" + sum + ";bars if " + sum + "=" + sum, 5, 2);
        boolean holds = x.asks(0, 3, 1) == 1;
        return holds ? x.asks(0, 3, 0) - 50 : NOTHING;
    }

    private static void sums() {
        Check.about("sums");
        Check.same("1+2*3", worth("1+2*3"), 7);
        Check.same("[1+2]*3", worth("[1+2]*3"), 9);
        Check.same("20-5-4", worth("20-5-4"), 11);
        Check.same("40/4/5", worth("40/4/5"), 2);
        Check.same("40/4*5", worth("40/4*5"), 49);
        Check.same("17%10%4", worth("17%10%4"), 3);
        Check.same("cut towards 0", worth("[0-7]/2"), -3);
        Check.same("what is left", worth("[0-7]%2"), -1);
        Check.same("what is left", worth("7%[0-2]"), 1);
        Check.same("divided by 0", worth("1/0"), NOTHING);
        Check.same("divided by 0", worth("1%[men-5]"), NOTHING);
        Check.same("by a word", worth("sign/men"), 0);
        Check.same("just as much", worth("1000*1000*1000/1000/1000/100"), 10);
        Check.same("beyond", worth("[1000*1000*1000+1]*0"), NOTHING);
        Check.same("beyond, then less", worth("1000*1000*1000*2/1000"), NOTHING);
        Check.same("far beyond", worth("[1000*1000*1000]*[1000*1000*1000]*1000"), NOTHING);
        Check.same("just as much below", worth("[0-1000*1000*1000]%7"), -6);
        Check.same("beyond below", worth("[0-1000*1000*1000-1]%7"), NOTHING);
    }

    private static int isSo(String test) {
        return Lands.under("bars if " + test, 5, 2).asks(0, 3, 1);
    }

    private static void tests() {
        Check.about("tests");
        Check.same("<", isSo("1 < 2"), 1);
        Check.same("<", isSo("2 < 2"), 0);
        Check.same(">", isSo("2 > 1"), 1);
        Check.same(">", isSo("2 > 2"), 0);
        Check.same("=", isSo("2 = 2"), 1);
        Check.same("=", isSo("2 = 1"), 0);
        Check.same("not", isSo("not 2 = 1"), 1);
        Check.same("not not", isSo("not not 2 = 1"), 0);
        Check.same("and ahead of or", isSo("1=1 or 1=1 and 1=2"), 1);
        Check.same("and ahead of or", isSo("1=2 and 1=1 or 1=1"), 1);
        Check.same("brackets", isSo("(1=1 or 1=1) and 1=2"), 0);
        Check.same("not of the first alone", isSo("not 1=2 and 1=2"), 0);
        Check.same("not of brackets", isSo("not (1=2 and 1=2)"), 1);
        Check.same("broken", isSo("1/0=1"), 0);
        Check.same("not broken", isSo("not 1/0=1"), 0);
        Check.same("behind or, not asked", isSo("1=1 or 1/0=1"), 1);
        Check.same("behind or, asked", isSo("1=2 or 1/0=1"), 0);
        Check.same("behind or, not reached", isSo("1/0=1 or 1=1"), 0);
        Check.same("behind and, not asked", isSo("not (1=2 and 1/0=1)"), 1);
        Check.same("behind and, asked", isSo("not (1=1 and 1/0=1)"), 0);
        Check.same("not asked, then more", isSo("1=2 and 1/0=1 or 1=1"), 1);
        Check.same("not asked, all of them", isSo("1=1 or 1/0=1 or 1%0=1 and 1=1"), 1);
        Check.same("the third", isSo("1=2 or 1=3 or 1=1"), 1);
        Check.same("the third", isSo("1=1 and 1=1 and 1=2"), 0);
        OpenGates x = Lands.under("turns 10;turns 1/0;turns 20 if 1/0 = 0;turns 30 if 1=2", 5, 2);
        Check.same("the last that holds", x.asks(0, 1, 2), 10);
    }

    private static void orders() {
        Check.about("promise 14");
        OpenGates x = Lands.of(10, 0, 20, 1);
        Check.same("none of it so", Texts.orders(x, "show 0 at 0 if 1 = 2"), 0);
        Check.same("not refused", x.status(), 0);
        Check.same("as often as told", Texts.orders(x, "man 0 by 2 times 20"), 20);
        Check.same("men", x.of(0, 0), 50);
        Check.same("each time asked", Texts.orders(x, "man 0 by 3 times 20 if men 0 < 60"), 4);
        Check.same("men", x.of(0, 0), 62);
        Check.same("sums each time", Texts.orders(x, "man 0 by 0 - done times 5"), 5);
        Check.same("men", x.of(0, 0), 52);
        Check.same("broken test: not run", Texts.orders(x, "man 0 by 1 if 1 / 0 = 1;man 1 by 1"), 1);
        Check.same("men", x.of(0, 0), 52);
        Check.same("men", x.of(1, 0), 21);
        Check.same("show, hide", Texts.orders(x, "show 3 at 1;show 2 at 1;hide 3 at 1"), 3);
        Check.same("shown", x.of(1, 2), 4);
        Check.same("march", Texts.orders(x, "hide 2 at 1;march 30 to 1 if latest = 0 - 1;hide 1 at 1 if latest = 0"), 2);
        Check.same("turned", x.of(1, 3), 0);
        Check.same("tape", x.count(7), 0);
        Check.same("can't be", Texts.orders(x, "man 0 by 1;show 6 at 0"), -3);
        Check.same("stopped", x.stopped(), 1);
        Check.same("no such fort", Texts.orders(x, "show 5 at 2"), -3);
        Check.same("fort below 0", Texts.orders(x, "show 5 at 0 - 1"), -3);
        Check.same("broken sum", Texts.orders(x, "man 0 by 1 / 0"), -3);
        Check.same("broken sum", Texts.orders(x, "man 1000 * 1000 * 1000 * 2 by 1"), -3);
        Check.same("no army", Texts.orders(x, "march 0 to 0"), -3);
        Check.same("in its third time", Texts.orders(x, "man 1 by 1;man 0 by 20 times 3"), -3);
        Check.same("stopped", x.stopped(), 1);
        Check.same("as it was", x.of(0, 0), 52);
        Check.same("as it was", x.of(1, 0), 21);
        Check.same("not a text", Texts.orders(x, ""), -6);
        Check.same("fault", x.fault(), 0);
        Check.same("twelve", Texts.orders(x, "man 0 by 1" + Texts.repeat(";man 0 by 1", 11)), 12);
    }

    private static void orderWords() {
        Check.about("the words of orders");
        OpenGates x = Lands.of(10, 2, 0, 1);
        x.fame(2, 7);
        x.terms(0, 5);
        x.show(0, 2);
        Check.same("day", Texts.orders(x, "man 1 by day"), 1);
        Check.same("men", x.of(1, 0), 5);
        Check.same("fame", Texts.orders(x, "man 1 by fame 2"), 1);
        Check.same("men", x.of(1, 0), 12);
        Check.same("shown", Texts.orders(x, "man 1 by shown 0"), 1);
        Check.same("men", x.of(1, 0), 16);
        Check.same("men", Texts.orders(x, "man 1 by men 0"), 1);
        Check.same("men", x.of(1, 0), 26);
        Check.same("-1 without such a fort", Texts.orders(x, "man 1 by men 5 + shown 2"), 1);
        Check.same("men", x.of(1, 0), 24);
        Check.same("done", Texts.orders(x, "man 1 by 0;man 1 by 0 times 3;man 1 by done"), 5);
        Check.same("men", x.of(1, 0), 28);
        x.terms(1, 0);
        Check.same("latest", Texts.orders(x, "man 1 by latest;march 9 to 1;man 1 by latest;march 99 to 0;man 1 by latest"), 5);
        Check.same("men", x.of(1, 0), 28 - 1 - 3 + 0 + 2);
        Check.same("days", x.count(14), 7);
        Check.same("latest is of this text alone", Texts.orders(x, "man 1 by latest"), 1);
        Check.same("men", x.of(1, 0), 25);
    }

    private static void orderFaults() {
        Check.about("promises 14, 15");
        reads(false, "show1at[2]times20if(men 5=1)");
        fails(false, "turns 1", 0);
        fails(false, "show 1 to 1", 7);
        fails(false, "hide 1 by 1", 7);
        fails(false, "march 1 at 1", 8);
        fails(false, "man 1 at 1", 6);
        fails(false, "show 1 at 1 times 21", 18);
        fails(false, "show 1 at 1 times 0", 18);
        reads(false, "show 1 at 1 times 001");
        fails(false, "show 1 at 1 times men 1", 18);
        fails(false, "show 1 at 1 times", 17);
        fails(false, "show 1 at 1 times 1 times 1", 20);
        fails(false, "show 1 at 1 if 1 = 1 times 2", 21);
        fails(false, "show men at 1", 9);
        fails(false, "show men 6 at 1", 9);
        fails(false, "show shown 6 at 1", 11);
        fails(false, "show fame 4 at 1", 10);
        reads(false, "show fame 3 at men 5");
        fails(false, "show known at 1", 5);
        fails(false, "show mood at 1", 5);
        fails(false, "show end at 1", 5);
        fails(false, "show 1 at", 9);
        fails(false, "show 1 at 1;", 12);
        fails(false, "show 1 at 1 or", 12);
        reads(false, "show 1 at 0 if men 1" + Texts.repeat("+men 1", 46) + "=1");
        fails(false, "show 1 at 0 if men 1" + Texts.repeat("+men 1", 46) + "=1+men 9", 15 + 5 + 46 * 6 + 3);
        reads(false, "show 1 at 0 times 9 if fame 1" + Texts.repeat("+1", 46) + "=1");
        fails(false, "show 1 at 0 times 9 if fame 1" + Texts.repeat("+1", 46) + "=1+1", 29 + 92 + 3);
        fails(false, "man 1 by 0" + Texts.repeat(";man 1 by 0", 12), 10 + 11 * 11 + 1);
    }

    private static void ordersUndone() {
        Check.about("orders wholly or not at all");
        OpenGates x = Lands.under("fame 7", 50, 0, 20, 1);
        for (int i = 0; i < 16; i++) {
            x.man(0, i % 2 == 0 ? 1 : -1);
        }
        x.show(1, 4);
        Check.same("can't be", Texts.orders(x, "show 1 at 0 ;hide 4 at 1;march 9 to 0 times 18;man 0 by 99"), -3);
        Check.same("stopped", x.stopped(), 3);
        Check.same("men", x.of(0, 0), 50);
        Check.same("shown", x.of(0, 2), 0);
        Check.same("shown", x.of(1, 2), 16);
        Check.same("day", x.count(14), 0);
        Check.same("fame", x.count(17), 50);
        Check.same("what can be undone", x.count(6), 16);
        Check.same("undo", x.undo(), 0);
        for (int i = 0; i < 15; i++) {
            Check.same("undo", x.undo(), 2);
        }
        Check.same("undo", x.undo(), -3);
        Check.same("men", x.of(0, 0), 51);
    }

    private static void faultAndStopped() {
        Check.about("promises 15, 16");
        OpenGates x = Lands.of(1, 0);
        Texts.orders(x, "march 0 to 0");
        Check.same("stopped", x.stopped(), 0);
        Check.same("fault", x.fault(), NONE);
        Texts.law(x, "x");
        Check.same("of the latest orders()", x.stopped(), 0);
        Texts.orders(x, "x");
        Check.same("a text that can't be", x.stopped(), NONE);
        Texts.orders(x, "march 0 to 0");
        Texts.orders(x, "man 0 by 1");
        Check.same("nothing stopped", x.stopped(), NONE);
        Check.same("nothing at fault", x.fault(), NONE);
        Texts.orders(x, "man 0 by");
        Check.same("fault", x.fault(), 8);
        Texts.law(x, "bars");
        Check.same("fault", x.fault(), NONE);
    }

    private static void forces() {
        Check.about("promise 17");
        OpenGates x = Lands.of(1, 0);
        Check.same("none yet", x.force(0), -2);
        Check.same("none", x.force(NONE), NONE);
        Check.same("not refused", x.status(), 0);
        Check.same("not counted", x.count(8), 0);
        Texts.law(x, "turns 10");
        Texts.law(x, "turns 20");
        Check.same("not in force by itself", x.asks(0, 1, 2), 50);
        Check.same("force", x.force(1), NONE);
        Check.same("in force", x.asks(0, 1, 2), 20);
        Check.same("force", x.force(0), 1);
        Check.same("in force", x.asks(0, 1, 2), 10);
        Check.same("no such", x.force(2), -2);
        Check.same("no such", x.force(-2), -2);
        Check.same("in force", x.count(13), 0);
        Check.same("none", x.force(NONE), 0);
        Check.same("none in force", x.asks(0, 1, 2), 50);
    }

    private static void showing() {
        Check.about("promise 18");
        OpenGates x = Lands.under("bars if sign = 4;pays 9 if sign = 3", 5, 0, 5, 0);
        Check.same("price", x.show(0, 0), 1);
        Check.same("as told", x.show(0, 3), 9);
        Check.same("shown already", x.show(0, 3), -3);
        Check.same("barred", x.show(0, 4), -3);
        Check.same("sign above", x.show(0, 6), -1);
        Check.same("sign below", x.show(0, -1), -1);
        Check.same("sign ahead of fort", x.show(7, 6), -1);
        Check.same("no such", x.show(2, 0), -2);
        Check.same("no such", x.show(-1, 0), -2);
        x.terms(1, 0);
        x.march(99, 1);
        Check.same("taken", x.show(1, 0), -3);
        Check.same("shown", x.of(0, 2), 9);
        Check.same("shown", x.of(1, 2), 0);
    }

    private static void hiding() {
        Check.about("promise 19");
        OpenGates x = Lands.under("bars", 5, 0);
        x.force(NONE);
        x.show(0, 1);
        x.show(0, 5);
        x.force(0);
        Check.same("what is barred too", x.hide(0, 1), 32);
        Check.same("hidden already", x.hide(0, 1), -3);
        Check.same("sign above", x.hide(0, 6), -1);
        Check.same("no such", x.hide(1, 5), -2);
        x.terms(1, 0);
        x.march(99, 0);
        Check.same("taken", x.hide(0, 5), -3);
        Check.same("shown", x.of(0, 2), 32);
    }

    private static void manning() {
        Check.about("promise 20");
        OpenGates x = Lands.of(0, 0);
        Check.same("more", x.man(0, 99), 99);
        Check.same("too many", x.man(0, 1), -3);
        Check.same("none more", x.man(0, 0), 99);
        Check.same("fewer", x.man(0, -99), 0);
        Check.same("too few", x.man(0, -1), -3);
        Check.same("above", x.man(0, 100), -1);
        Check.same("below", x.man(0, -100), -1);
        Check.same("no such", x.man(1, 5), -2);
        x.terms(1, 0);
        x.march(99, 0);
        Check.same("taken", x.man(0, 5), -3);
    }

    private static void marching() {
        Check.about("promise 21");
        OpenGates x = Lands.of(20, 0);
        Check.same("turns", x.march(99, 0), 1);
        x.terms(1, 499);
        Check.same("no more than the fort", x.march(20, 0), 0);
        Check.same("less by a third, cut", x.of(0, 0), 14);
        Check.same("less by none", x.march(2, 0), 0);
        Check.same("less by none", x.of(0, 0), 14);
        Check.same("more than the fort", x.march(15, 0), 2);
        Check.same("men stay", x.of(0, 0), 14);
        Check.same("taken", x.of(0, 3), 1);
        Check.same("taken", x.march(15, 0), -3);
        Check.same("days", x.count(14), 4);
        Check.same("army 0", x.march(0, 0), -1);
        Check.same("army 100", x.march(100, 0), -1);
        Check.same("army ahead of fort", x.march(100, 3), -1);
        Check.same("no such", x.march(1, 1), -2);
        x = Lands.of(20, 0);
        x.terms(0, 998);
        Check.same("the last but one day", x.march(1, 0), 1);
        Check.same("the last day", x.march(1, 0), -3);
        Check.same("day", x.count(14), 999);
        marchingFame();
    }

    private static void marchingFame() {
        OpenGates x = Lands.under("fame men*day+known if end=0;fame 21 if end=1;fame 0-21 if end=2", 12, 3);
        x.fame(3, 90);
        x.march(1, 0);
        Check.same("at most 20, at most 100", x.count(20), 100);
        x.terms(1, 0);
        x.fame(3, 1);
        x.terms(0, 2);
        x.march(6, 0);
        Check.same("by men as they are then", x.count(20), 1 + 20);
        x.march(99, 0);
        Check.same("at least -20", x.count(20), 1);
        x = Lands.under("fame men+known-48-day*2", 12, 3);
        x.terms(1, 0);
        x.march(12, 0);
        Check.same("men 8, fame 50, day 0", x.count(20), 60);
        Check.same("day", x.count(14), 1);
        x.march(99, 0);
        Check.same("men 8, fame 60, day 1", x.count(20), 78);
    }

    private static void undoing() {
        Check.about("promise 22");
        OpenGates x = Lands.under("fame 9", 30, 0, 30, 0);
        Check.same("none", x.undo(), -3);
        x.show(0, 1);
        x.hide(0, 1);
        x.man(1, 9);
        x.terms(1, 0);
        Check.same("nothing ahead of terms()", x.undo(), -3);
        x.show(0, 1);
        x.march(9, 0);
        x.man(0, 9);
        x.march(99, 0);
        x.force(NONE);
        x.road(0, 1, 3);
        x.siege(1, 1, 1);
        Check.same("can be undone", x.count(6), 4);
        Check.same("march", x.undo(), 3);
        Check.same("taken", x.of(0, 3), 0);
        Check.same("fame", x.count(17), 59);
        Check.same("day", x.count(14), 1);
        Check.same("man", x.undo(), 2);
        Check.same("men", x.of(0, 0), 27);
        Check.same("march", x.undo(), 3);
        Check.same("men", x.of(0, 0), 30);
        Check.same("show", x.undo(), 0);
        Check.same("shown", x.of(0, 2), 0);
        Check.same("none", x.undo(), -3);
        Check.same("force stays", x.count(13), NONE);
        for (int i = 0; i < 19; i++) {
            x.man(0, 1);
            x.show(1, i % 6);
            x.hide(1, i % 6);
        }
        Check.same("sixteen", x.count(6), 16);
        int[] deeds = {1, 0, 2};
        for (int i = 0; i < 16; i++) {
            Check.same("undo", x.undo(), deeds[i % 3]);
            Check.same("men", x.of(0, 0), 49 - (i + 1) / 3);
            Check.same("shown", x.of(1, 2), i % 3 == 0 ? 1 << (18 - i / 3) % 6 : 0);
        }
        Check.same("no more", x.undo(), -3);
        Check.same("men", x.of(0, 0), 44);
        undoingClosed();
    }

    private static void undoingClosed() {
        for (int by = 0; by < 5; by++) {
            OpenGates x = Lands.of(5, 0);
            x.show(0, 1);
            refusedChange(x, by);
            Check.same("refused, " + by, x.count(6), 1);
            change(x, by);
            Check.same("not refused, " + by, x.count(6), 0);
            Check.same("undo", x.undo(), -3);
            Check.same("shown", x.of(0, 2), 2);
        }
        OpenGates x = Lands.of(5, 0);
        Texts.orders(x, "show 1 at 0;man 0 by 1 times 3");
        Check.same("by orders", x.count(6), 4);
        Check.same("by orders", x.undo(), 2);
        Check.same("men", x.of(0, 0), 7);
    }

    private static void refusedChange(OpenGates x, int by) {
        switch (by) {
            case 0 -> x.fort(100, 0);
            case 1 -> x.sign(9, 0, 0);
            case 2 -> x.fame(9, 0);
            case 3 -> x.terms(9, 0);
            default -> x.row();
        }
    }

    private static void change(OpenGates x, int by) {
        switch (by) {
            case 0 -> x.fort(9, 0);
            case 1 -> x.sign(0, 0, 5);
            case 2 -> x.fame(0, 50);
            case 3 -> x.terms(2, 0);
            default -> {
                x.feed(-1, 0, 0, 0, 0);
                x.end(1);
                x.row();
            }
        }
    }

    private static void bluffs() {
        Check.about("promise 23");
        OpenGates x = Lands.of(5, 0);
        Check.same("turns by nothing", x.bluff(0, 9, 0), 0);
        Check.same("turns by nothing", x.bluff(0, 9, 1), 0);
        x.terms(1, 400);
        Check.same("signs that tell nothing", x.bluff(0, 9, 0), NONE);
        x.fame(0, 100);
        for (int sign = 2; sign < 5; sign++) {
            x.sign(sign, 0, 8);
            x.sign(sign, 1, 8);
        }
        x.sign(2, 1, 2);
        x.sign(3, 1, 2);
        x.sign(2, 2, 9);
        x.sign(3, 2, 9);
        // One of 2, 3 shown and the other not leaves 400 of 1,000; both are needed.
        Check.same("both", x.bluff(0, 9, 0), 18);
        Check.same("both", x.bluff(0, 9, 1), 12);
        x.sign(3, 1, 7);
        x.sign(3, 0, 7);
        x.sign(2, 0, 9);
        Check.same("the lowest", x.bluff(0, 9, 1), 4);
        x.sign(0, 2, 0);
        x.sign(1, 2, 0);
        Check.same("the lowest of the cheapest", x.bluff(0, 9, 1), 4);
        Check.same("what", x.bluff(0, 9, 2), NONE);
        Check.same("what", x.bluff(0, 9, -1), NONE);
        Check.same("army", x.bluff(0, 0, 0), NONE);
        Check.same("army", x.bluff(0, 100, 0), NONE);
        Check.same("no such", x.bluff(1, 9, 0), NONE);
        x.man(0, -5);
        Check.same("nobody but the sign", x.march(9, 0), 2);
        Check.same("taken", x.bluff(0, 9, 0), NONE);
        bluffsByLaw();
    }

    private static void bluffsByLaw() {
        OpenGates x = Lands.under("bars if sign<2;pays 5-sign;turns 80;turns belief if belief<60;turns 100 if army=50", 5, 0);
        x.fame(0, 100);
        x.terms(1, 700);
        x.sign(0, 0, 9);
        x.sign(0, 1, 1);
        x.sign(1, 0, 9);
        x.sign(1, 1, 1);
        // Nothing: 700 * 1 * 1 : 300 * 9 * 9; belief below 60 turns it by the law's own word.
        Check.same("turns by belief as it would be", x.bluff(0, 9, 0), 0);
        Check.same("never", x.bluff(0, 50, 0), NONE);
        x.force(NONE);
        x.show(0, 0);
        x.show(0, 1);
        x.force(0);
        Check.same("shown already is not barred", x.bluff(0, 9, 1), 0);
        x = Lands.under("bars if sign<2;pays 5-sign;turns 80", 5, 0);
        x.fame(0, 100);
        x.terms(1, 700);
        x.sign(0, 0, 9);
        x.sign(0, 1, 1);
        x.sign(2, 0, 6);
        x.sign(2, 1, 4);
        Check.same("barred", x.bluff(0, 9, 0), NONE);
        x.force(NONE);
        x.show(0, 0);
        x.force(0);
        Check.same("shown already, paid for", x.bluff(0, 9, 0), 5);
        Check.same("shown already", x.bluff(0, 9, 1), 1);
        Check.same("nothing is changed", x.of(0, 2), 1);
    }

    private static void scouts() {
        Check.about("promise 24");
        OpenGates x = Lands.of(5, 1);
        Check.same("all alike: the lowest", x.scout(0, 0), 0);
        Check.same("by nothing", x.scout(0, 1), 0);
        x.sign(3, 0, 8);
        x.sign(3, 1, 2);
        x.sign(4, 0, 2);
        x.sign(4, 1, 8);
        // By 3: 64 : 4 against 16 : 16; by 4: 4 : 64 against 16 : 16, cut to one more.
        Check.same("the most", x.scout(0, 0), 4);
        Check.same("by as much", x.scout(0, 1), 500000 - 279411);
        x.show(0, 4);
        Check.same("as much by both: the lowest", x.scout(0, 0), 3);
        Check.same("by as much", x.scout(0, 1), 500000 - 279411);
        Check.same("what", x.scout(0, 2), NONE);
        Check.same("what", x.scout(0, -1), NONE);
        Check.same("no such", x.scout(1, 0), NONE);
        x.terms(1, 10);
        x.march(99, 0);
        Check.same("taken", x.of(0, 3), 1);
        Check.same("a fort that is taken, too", x.scout(0, 0), 3);
    }

    private static void holding() {
        Check.about("promise 25");
        OpenGates x = Lands.of(39, 0, 8, 0, 9, 0);
        Check.same("all turn", x.holds(0, 30), 1000000000000L);
        x.terms(1, 0);
        Check.same("four of ten", x.holds(0, 1), 400000000000L);
        Check.same("four of ten", x.holds(0, 2), 160000000000L);
        Check.same("none", x.holds(1, 1), 0);
        Check.same("none at all yet", x.holds(1, 0), 1000000000000L);
        Check.same("one of ten", x.holds(2, 12), 1);
        Check.same("cut", x.holds(2, 13), 0);
        long chance = 1000000000000L;
        for (int i = 0; i < 30; i++) {
            chance = chance * 4 / 10;
        }
        Check.same("thirty", x.holds(0, 30), chance);
        Check.same("n above", x.holds(0, 31), NONE);
        Check.same("n below", x.holds(0, -1), NONE);
        Check.same("no such", x.holds(3, 0), NONE);
        Texts.law(x, "turns 0 if army % 20 = 19");
        x.force(0);
        Check.same("each as its army is told", x.holds(1, 1), 500000000000L);
        x.force(NONE);
        x.march(99, 0);
        Check.same("taken", x.holds(0, 0), NONE);
    }

    private static void retreats() {
        Check.about("promise 26");
        OpenGates x = Lands.of(5, 0, 5, 0, 5, 0, 5, 0, 5, 0);
        Check.same("no way", x.retreat(0, 4, NONE), NONE);
        Check.same("no way", x.retreat(0, 4, 0), NONE);
        x.road(0, 3, 2);
        x.road(3, 4, 2);
        x.road(0, 2, 1);
        x.road(2, 4, 3);
        x.road(0, 1, 1);
        x.road(1, 2, 1);
        Check.same("fewest", x.retreat(0, 4, NONE), 4);
        Check.same("the lowest", x.retreat(0, 4, 0), 2);
        Check.same("the end", x.retreat(0, 4, 1), 4);
        Check.same("no more", x.retreat(0, 4, 2), NONE);
        Check.same("back", x.retreat(4, 0, 0), 2);
        Check.same("i", x.retreat(0, 4, -2), NONE);
        Check.same("one fort", x.retreat(2, 2, NONE), NONE);
        Check.same("no such", x.retreat(0, 5, NONE), NONE);
        Check.same("no such", x.retreat(-1, 0, NONE), NONE);
        x.terms(1, 0);
        x.march(99, 2);
        Check.same("around what is taken", x.retreat(0, 4, 0), 3);
        Check.same("to what is taken", x.retreat(1, 2, NONE), 1);
        Check.same("from what is taken", x.retreat(2, 0, NONE), 1);
        x.march(99, 3);
        Check.same("no way", x.retreat(0, 4, NONE), NONE);
        Check.same("not out of another one's end", x.retreat(1, 4, NONE), NONE);
        Check.same("from what is taken", x.retreat(3, 4, NONE), 2);
    }

    private static void rests(int a0, int a1, int b0, int b1, int... due) {
        OpenGates x = new OpenGates();
        for (int what = 0; what < 4; what++) {
            String call = "game(" + a0 + ", " + a1 + ", " + b0 + ", " + b1 + ", " + what + ")";
            Check.same(call, x.game(a0, a1, b0, b1, what), due[what]);
        }
    }

    private static void games() {
        Check.about("promise 27");
        rests(3, -1, -2, 5, 7, 11, 13, 11);
        rests(-1, 3, 5, -2, 7, 11, 13, 11);
        rests(-3, 1, 2, -5, 7, 11, -13, 11);
        rests(99, -99, -99, 99, 1, 2, 0, 1);
        rests(2, 0, 0, 2, 1, 2, 1, 1);
        rests(0, 0, 0, 0, 1, 1, 0, 1);
        rests(1, 2, 0, 5, 1, 1, 1, 1);
        rests(5, 2, 1, 2, 1, 1, 2, 1);
        rests(0, 9, 3, 4, 0, 1, 3, 1);
        rests(9, 0, 4, -3, 1, 1, 0, 1);
        rests(9, -5, 4, -3, 0, 1, -3, 1);
        rests(4, 4, 4, 4, 1, 1, 4, 1);
        rests(2, 2, 2, 5, 1, 1, 2, 1);
        rests(2, 3, 2, 9, 1, 1, 2, 1);
        rests(2, 1, 2, 9, 0, 1, 2, 1);
        rests(1, 2, 9, 2, 0, 1, 2, 1);
        OpenGates x = new OpenGates();
        int[] wrong = {-100, 100, Integer.MIN_VALUE, Integer.MAX_VALUE};
        for (int value : wrong) {
            Check.same("a0", x.game(value, 0, 0, 0, 0), NOTHING);
            Check.same("a1", x.game(0, value, 0, 0, 0), NOTHING);
            Check.same("b0", x.game(0, 0, value, 0, 0), NOTHING);
            Check.same("b1", x.game(0, 0, 0, value, 0), NOTHING);
            Check.same("what", x.game(0, 0, 0, 0, value), NOTHING);
        }
        Check.same("what", x.game(0, 0, 0, 0, 4), NOTHING);
        Check.same("what", x.game(0, 0, 0, 0, -1), NOTHING);
    }

    private static void careers() {
        Check.about("promises 28, 29");
        OpenGates x = new OpenGates();
        Check.same("cost", x.siege(-1, 0, 0), -1);
        Check.same("cost", x.siege(100, 0, 0), -1);
        Check.same("name", x.siege(0, -1, 0), -1);
        Check.same("name", x.siege(0, 11, 0), -1);
        Check.same("gain", x.siege(0, 0, -1), -1);
        Check.same("gain", x.siege(0, 0, 1000), -1);
        Check.same("none", x.career(3, 0), 0);
        Check.same("none", x.career(3, 1), NOTHING);
        Check.same("first", x.siege(5, 3, 5), 0);
        Check.same("lost both ways: careful first", x.career(2, 0), -5);
        Check.same("careful", x.career(2, 1), 0);
        Check.same("won", x.career(3, 0), 5);
        Check.same("bold", x.career(3, 1), 1);
        x.siege(5, 1, 5);
        // careful, bold: -5 + 5; bold, careful: -5 - 5.
        Check.same("the most", x.career(0, 0), 0);
        Check.same("first", x.career(0, 1), 0);
        Check.same("second", x.career(0, 2), 1);
        Check.same("third", x.career(0, 3), NOTHING);
        // bold, then careful or bold: 5 - 5; careful, bold: -5 + 5: careful first.
        Check.same("the most", x.career(10, 0), 0);
        Check.same("the first as a row", x.career(10, 1), 0);
        Check.same("name", x.career(11, 0), NOTHING);
        Check.same("name", x.career(-1, 0), NOTHING);
        Check.same("what", x.career(0, -1), NOTHING);
        Check.same("what", x.career(0, Integer.MIN_VALUE), NOTHING);
        for (int i = 2; i < 8; i++) {
            Check.same("siege", x.siege(0, 10, 999), i);
        }
        Check.same("no room", x.siege(0, 0, 0), -5);
        Check.same("can't be ahead of no room", x.siege(0, 0, 1000), -1);
        Check.same("a name is 10 at most", x.career(10, 0), 999 - 10);
        Check.same("the latest", x.career(10, 8), 1);
        Check.same("sieges", x.count(2), 8);
        Check.same("bold without a name loses", x.career(0, 0), 0);
    }

    private static void fires() {
        Check.about("promises 30, 31, 32");
        OpenGates x = new OpenGates();
        Check.same("hills", x.fire(64), -1);
        Check.same("hills", x.fire(-1), -1);
        Check.same("nothing needed", x.enough(1), 0);
        Check.same("needs", x.needs(0, 1), 0);
        Check.same("no fires", x.enough(0), NONE);
        int[] hills = {1, 2, 4, 7, 63, 0, 32, 32, 16, 8};
        for (int i = 0; i < hills.length; i++) {
            Check.same("fire", x.fire(hills[i]), i);
        }
        Check.same("no room", x.fire(0), -5);
        Check.same("can't be ahead of no room", x.fire(64), -1);
        Check.same("one", x.enough(0), 1);
        Check.same("the lowest", x.enough(1), 1);
        x.needs(1, 1);
        Check.same("one", x.enough(1), 8);
        x.needs(5, 2);
        Check.same("two", x.enough(0), 2);
        Check.same("which", x.enough(1), 16 + 64);
        Check.same("needs", x.needs(5, 4), 2);
        Check.same("not by all", x.enough(0), NONE);
        Check.same("not by all", x.enough(1), NONE);
        Check.same("needs", x.needs(5, 3), 4);
        Check.same("all of them", x.enough(1), 16 + 64 + 128);
        Check.same("what", x.enough(2), NONE);
        Check.same("what", x.enough(-1), NONE);
        Check.same("hill", x.needs(6, 0), -1);
        Check.same("hill", x.needs(-1, 0), -1);
        Check.same("value", x.needs(0, 10), -1);
        Check.same("value", x.needs(0, -1), -1);
        Check.same("nine", x.needs(0, 9), 1);
        Check.same("as it was", x.needs(0, 0), 9);
    }

    private static void counting() {
        Check.about("promises 33, 35, 36");
        OpenGates x = new OpenGates();
        x.fire(1);
        x.fire(3);
        x.fire(6);
        Check.same("all", x.fits(NONE), 8);
        Check.same("the last", x.fits(7), 7);
        Check.same("no more", x.fits(8), NONE);
        Check.same("i", x.fits(-2), NONE);
        // From hills 0 and 1 sets show 0, 1, 1, 2 twice each; from hill 2 four and four.
        Check.same("next", x.next(0), 0);
        Check.same("left", x.next(1), 4);
        Check.same("hill", x.counted(6, 0), -1);
        Check.same("hill", x.counted(-1, 0), -1);
        Check.same("many", x.counted(0, 10), -1);
        Check.same("many", x.counted(0, -1), -1);
        Check.same("counted", x.counted(0, 1), 1);
        Check.same("sets", x.fits(NONE), 4);
        Check.same("first", x.fits(0), 1);
        Check.same("second", x.fits(1), 2);
        Check.same("third", x.fits(2), 5);
        Check.same("fourth", x.fits(3), 6);
        // Hill 0 shows one by all; hill 1 shows 0, 1, 1, 2; hill 2 shows 0, 0, 1, 1.
        Check.same("next", x.next(0), 1);
        Check.same("left", x.next(1), 2);
        Check.same("counted", x.counted(1, 2), 2);
        Check.same("one", x.fits(NONE), 1);
        Check.same("which", x.fits(0), 6);
        Check.same("next", x.next(0), 0);
        Check.same("left", x.next(1), 1);
        Check.same("counted", x.counted(1, 1), 3);
        Check.same("they differ", x.fits(NONE), 0);
        Check.same("none", x.fits(0), NONE);
        Check.same("none", x.next(0), NONE);
        Check.same("none", x.next(1), NONE);
        for (int i = 4; i <= 8; i++) {
            Check.same("counted", x.counted(5, 0), i);
        }
        Check.same("no room", x.counted(5, 0), -5);
        Check.same("can't be ahead of no room", x.counted(5, 10), -1);
        Check.same("what", x.next(2), NONE);
        x.forget();
        for (int i = 0; i < 10; i++) {
            x.fire(i < 9 ? 5 : 6);
        }
        x.counted(0, 9);
        x.counted(1, 1);
        Check.same("all ten", x.fits(0), 1023);
        Check.same("ten seen from hill 2", x.next(0), 0);
        Check.same("one is left", x.next(1), 1);
        Check.same("what", new OpenGates().next(-1), NONE);
    }

    private static void forgetting() {
        Check.about("promise 34");
        OpenGates x = new OpenGates();
        Check.same("none", x.forget(), 0);
        x.siege(1, 1, 1);
        x.siege(1, 1, 1);
        x.fire(1);
        x.counted(0, 3);
        x.counted(0, 3);
        x.counted(1, 3);
        x.needs(2, 1);
        Check.same("together", x.forget(), 6);
        Check.same("sieges", x.count(2), 0);
        Check.same("fires", x.count(3), 0);
        Check.same("counted", x.count(4), 0);
        Check.same("needs stay", x.needs(2, 1), 1);
        Check.same("fires from 0", x.fire(2), 0);
        Check.same("which is not seen from the old hill", x.needs(0, 1), 0);
        Check.same("not by all", x.enough(0), NONE);
        x.fire(64);
        x.forget();
        Check.same("status is not for it", x.status(), -1);
    }

    private static void siegesByDraws() {
        Check.about("promises 37, 38");
        OpenGates x = new OpenGates();
        Check.same("seed", x.sieges(-1, 1), -1);
        Check.same("seed", x.sieges(1000001, 1), -1);
        Check.same("n", x.sieges(1, 0), -1);
        Check.same("n", x.sieges(1, 61), -1);
        Check.same("no forts", x.sieges(1, 60), -3);
        Check.same("none yet", x.drawn(0, 0), NONE);
        x.fort(50, 2);
        x.fort(50, 3);
        Check.same("none yet", x.drawn(0, 3), NONE);
        // Seed 0 draws 12345, 628841, 621889: fort 1, army 93, sign 1; belief is even.
        Check.same("it turns", x.sieges(0, 1), 1);
        Check.same("shown", x.drawn(1, 2), 1 << 621889 % 6);
        x.terms(1, 0);
        x.man(1, 49);
        Check.same("none turns", x.sieges(0, 1), 0);
        int army = 628841 % 99 + 1;
        Check.same("men", x.drawn(1, 0), 99 - army / 3);
        Check.same("taken", x.drawn(1, 1), 0);
        Check.same("on paper", x.of(1, 0), 99);
        Check.same("on paper", x.of(1, 2), 0);
        Check.same("on paper", x.count(14), 0);
        Check.same("on paper", x.count(6), 1);
        Check.same("other fort", x.drawn(0, 0), 50);
        Check.same("fame", x.drawn(3, 3), 50);
        Check.same("general", x.drawn(4, 3), NONE);
        Check.same("fort", x.drawn(2, 0), NONE);
        Check.same("fort", x.drawn(-1, 0), NONE);
        Check.same("what", x.drawn(0, 4), NONE);
        Check.same("what", x.drawn(0, -1), NONE);
        x.sieges(7, 0);
        Check.same("refused: as it was", x.drawn(1, 0), 99 - army / 3);
        x.fort(1, 1);
        Check.same("forts as they were then", x.drawn(2, 0), NONE);
        Check.same("seed", x.sieges(1000000, 60), 0);
        Check.same("all of them", x.drawn(2, 1), 1);
        x.man(2, 50);
        Check.same("as they were then", x.drawn(2, 0), 1);
    }

    private static void images() {
        Check.about("promises 39, 40");
        OpenGates x = Lands.under("turns 33", 10, 1, 20, 2);
        Check.same("k", x.image(2), -1);
        Check.same("k", x.image(-1), -1);
        Check.same("k", x.back(2), -1);
        Check.same("k", x.back(-1), -1);
        Check.same("not kept", x.back(1), -2);
        x.road(0, 1, 5);
        x.siege(1, 2, 3);
        x.fire(9);
        x.needs(3, 1);
        x.counted(3, 1);
        x.sign(1, 0, 7);
        x.terms(2, 4);
        x.show(0, 1);
        Check.same("kept", x.image(1), 0);
        Check.same("still undone", x.count(6), 1);
        x.undo();
        x.fort(1, 1);
        x.road(0, 1, 6);
        x.road(0, 2, 1);
        x.forget();
        x.needs(3, 2);
        x.sign(1, 0, 8);
        x.terms(2, 5);
        x.terms(0, 9);
        x.fame(1, 9);
        x.man(0, 5);
        x.force(NONE);
        Texts.law(x, "turns 44");
        Texts.orders(x, "march 0 to 0");
        x.feed(1, 2, 3, 4, 5);
        x.sieges(3, 3);
        int behind = x.drawn(2, 0);
        int shown = x.drawn(2, 2);
        Check.same("kept", x.image(0), 0);
        Check.same("back", x.back(1), 0);
        Check.same("nothing to undo", x.count(6), 0);
        int[] due = {2, 0, 1, 1, 1, 1, 0, 20, 5, 1, 1, 0, 0, 0, 0, 500, 4, 50, 50, 50, 50};
        for (int what = 0; what < due.length; what++) {
            if (what != 8 && what != 9 && what != 10) {
                Check.same("count(" + what + ")", x.count(what), due[what]);
            }
        }
        Check.same("men", x.of(0, 0), 10);
        Check.same("shown", x.of(0, 2), 2);
        Check.same("road", x.road(0, 1, 5), 5);
        Check.same("needs", x.needs(3, 1), 1);
        Check.same("sign", x.sign(1, 0, 7), 7);
        Check.same("enough", x.enough(1), 1);
        Check.same("law", x.asks(0, 1, 2), 33);
        Check.same("stopped stays", x.stopped(), 0);
        Check.same("draws stay", x.drawn(2, 0), behind);
        Check.same("draws stay", x.drawn(2, 2), shown);
        x.end(0);
        Check.same("another law there", Texts.law(x, "turns 55"), 1);
        Check.same("images stay", x.back(0), 0);
        Check.same("forts", x.count(0), 3);
        Check.same("road", x.road(0, 2, 0), 1);
        Check.same("force", x.force(1), NONE);
        Check.same("the law as it was", x.asks(0, 1, 2), 44);
        Check.same("images stay", x.back(1), 0);
        Check.same("laws", x.count(5), 1);
        x.image(1);
        x.man(0, 1);
        x.image(1);
        x.man(0, 1);
        x.back(1);
        Check.same("the latest", x.of(0, 0), 11);
        x.man(0, 1);
        x.back(7);
        Check.same("refused: as it was", x.count(6), 1);
    }

    private static void counts() {
        Check.about("promise 41");
        OpenGates x = Lands.of(9, 0, 9, 1, 9, 2);
        x.terms(1, 1);
        x.march(99, 1);
        x.march(99, 2);
        Check.same("forts", x.count(0), 3);
        Check.same("taken", x.count(1), 2);
        Check.same("can be undone", x.count(6), 2);
        x.feed(0, 0, 0, 0, 0);
        Check.same("tape", x.count(7), 20);
        x.end(0);
        x.fort(100, 0);
        x.road(0, 0, 0);
        x.force(5);
        x.undo();
        x.undo();
        x.undo();
        x.law();
        x.orders();
        x.row();
        x.row();
        x.fort(1, 1);
        x.fort(1, 1);
        x.fort(1, 1);
        for (int i = 0; i < 5; i++) {
            x.fort(1, 1);
        }
        Check.same("by -1", x.count(8), 2);
        Check.same("by -2", x.count(9), 1);
        Check.same("by -3", x.count(10), 1);
        Check.same("by -5", x.count(11), 5);
        Check.same("by -6", x.count(12), 4);
        x.of(9, 9);
        x.asks(9, 9, 9);
        x.feed(0, 0, 0, 0, 0);
        x.end(21);
        x.bluff(9, 9, 9);
        x.retreat(9, 9, 9);
        x.game(999, 0, 0, 0, 0);
        x.career(99, 0);
        x.enough(9);
        x.fits(9);
        x.next(9);
        x.drawn(9, 9);
        x.count(99);
        Check.same("none of these is refused", x.count(8), 2);
        x.end(0);
        Texts.orders(x, "show 9 at 0");
        Check.same("once, by -3", x.count(10), 2);
        Check.same("once, by -3", x.count(8), 2);
        Check.same("above", x.count(21), NONE);
        Check.same("below", x.count(-1), NONE);
    }

    private static void statuses() {
        Check.about("promise 42");
        OpenGates x = new OpenGates();
        Check.same("ahead of any", x.status(), 0);
        x.fort(100, 0);
        Check.same("fort", x.status(), -1);
        x.of(0, 0);
        x.fault();
        x.brooms();
        x.stopped();
        x.count(0);
        x.feed(0, 0, 0, 0, 0);
        x.end(0);
        x.enough(0);
        x.fits(NONE);
        x.forget();
        Check.same("still", x.status(), -1);
        x.sign(0, 0, 5);
        Check.same("sign", x.status(), 0);
        x.road(0, 1, 1);
        Check.same("road", x.status(), -2);
        x.fame(0, 50);
        Check.same("fame", x.status(), 0);
        x.row();
        Check.same("row", x.status(), -6);
        x.terms(0, 0);
        Check.same("terms", x.status(), 0);
        x.undo();
        Check.same("undo", x.status(), -3);
        x.image(0);
        Check.same("image", x.status(), 0);
        x.back(1);
        Check.same("back", x.status(), -2);
        x.needs(0, 0);
        Check.same("needs", x.status(), 0);
        x.sieges(0, 1);
        Check.same("sieges", x.status(), -3);
        x.fire(0);
        Check.same("fire", x.status(), 0);
        x.law();
        Check.same("law", x.status(), -6);
        x.siege(0, 0, 0);
        Check.same("siege", x.status(), 0);
        x.orders();
        Check.same("orders", x.status(), -6);
        x.counted(0, 0);
        Check.same("counted", x.status(), 0);
        x.force(0);
        Check.same("force", x.status(), -2);
        x.fort(0, 0);
        x.show(0, 9);
        Check.same("show", x.status(), -1);
        x.force(NONE);
        Check.same("force", x.status(), 0);
        x.hide(0, 0);
        Check.same("hide", x.status(), -3);
        x.man(0, 1);
        Check.same("man", x.status(), 0);
        x.march(1, 1);
        Check.same("march", x.status(), -2);
    }
}
