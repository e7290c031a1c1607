import java.util.function.IntUnaryOperator;

/** The edges that parts I, III and IV of the document's terms name, a test for each sentence. */
public final class TermsEdgesTest {
    private static final int NONE = OpenGates.NONE;
    private static final int[] FAR = {Integer.MIN_VALUE, Integer.MIN_VALUE + 1, -1000, 100000, Integer.MAX_VALUE};

    public static void main(String[] args) {
        ranges();
        atFirst();
        atMost();
        firstOfTheRefusals();
        beliefs();
        showing();
        hiding();
        manning();
        marching();
        fameOfAMarch();
        cheapestShows();
        scouts();
        holding();
        retreats();
        games();
        careers();
        enough();
        fitting();
        countedNext();
        draws();
        rows();
        images();
        Check.finish();
    }

    /** What can be is taken (0 or more), what is beside or far off is -1. */
    private static void range(String sentence, int least, int most, IntUnaryOperator call) {
        Check.about(sentence);
        Check.isTrue("the least can be", call.applyAsInt(least) >= 0);
        Check.isTrue("the most can be", call.applyAsInt(most) >= 0);
        Check.same("too small", call.applyAsInt(least - 1), -1);
        Check.same("too large", call.applyAsInt(most + 1), -1);
        for (int far : FAR) {
            if (far < least || far > most) {
                Check.same("far off", call.applyAsInt(far), -1);
            }
        }
    }

    private static void ranges() {
        range("I. GENERALS 0 .. 3, of a FORT", 0, 3, v -> new OpenGates().fort(1, v));
        range("I. GENERALS 0 .. 3, with a FAME", 0, 3, v -> new OpenGates().fame(v, 1));
        range("I. FAME 0 .. 100", 0, 100, v -> new OpenGates().fame(0, v));
        range("I. MEN 0 .. 99", 0, 99, v -> new OpenGates().fort(v, 0));
        range("I. SIGNS 0 .. 5", 0, 5, v -> new OpenGates().sign(v, 0, 1));
        range("I. SIGNS 0 .. 5, to SHOW", 0, 5, v -> Lands.of(1, 0).show(0, v));
        range("I. FULL 0 .. 10", 0, 10, v -> new OpenGates().sign(3, 0, v));
        range("I. EMPTY 0 .. 10", 0, 10, v -> new OpenGates().sign(3, 1, v));
        range("I. PRICE 0 .. 99", 0, 99, v -> new OpenGates().sign(3, 2, v));
        range("I. HOURS 0 .. 99", 0, 99, v -> Lands.of(1, 0, 1, 0).road(0, 1, v));
        range("I. HILLS as six bits", 0, 63, v -> new OpenGates().fire(v));
        range("I. NEEDS of HILLS 0 .. 5", 0, 5, v -> new OpenGates().needs(v, 1));
        range("I. NEEDS 0 .. 9", 0, 9, v -> new OpenGates().needs(1, v));
        range("I. COUNTED from a HILL 0 .. 5", 0, 5, v -> new OpenGates().counted(v, 1));
        range("I. COUNTED so many FIRES 0 .. 9", 0, 9, v -> new OpenGates().counted(1, v));
        range("I. COST 0 .. 99", 0, 99, v -> new OpenGates().siege(v, 1, 1));
        range("I. NAME 0 .. 10", 0, 10, v -> new OpenGates().siege(1, v, 1));
        range("I. GAIN 0 .. 999", 0, 999, v -> new OpenGates().siege(1, 1, v));
        range("I. TERMS 0 .. 2", 0, 2, v -> new OpenGates().terms(v, 1));
        range("I. DAY 0 .. 999", 0, 999, v -> new OpenGates().terms(0, v));
        range("I. PRIOR 0 .. 1,000", 0, 1000, v -> new OpenGates().terms(1, v));
        range("I. MOOD 0 .. 9", 0, 9, v -> new OpenGates().terms(2, v));
        range("III. an army of 1 .. 99 men", 1, 99, v -> Lands.of(1, 0).march(v, 0));
        range("III. MEN by -99 .. 99 more", -99, 99, v -> Lands.of(v < 0 ? 99 : 0, 0).man(0, v));
        range("IV. SEED 0 .. 1,000,000", 0, 1000000, v -> Lands.of(1, 0).sieges(v, 1));
        range("IV. n 1 .. 60", 1, 60, v -> Lands.of(1, 0).sieges(1, v));
        range("IV. IMAGES 0, 1", 0, 1, v -> new OpenGates().image(v));
    }

    private static void atFirst() {
        Check.about("I. FAME (50 at first)");
        for (int general = 0; general < 4; general++) {
            Check.same("fame", new OpenGates().fame(general, 0), 50);
        }
        Check.about("I. SHOWN (none at first), TAKEN or not (at first)");
        Check.same("shown", Lands.of(9, 3).of(0, 2), 0);
        Check.same("taken", Lands.of(9, 3).of(0, 3), 0);
        Check.about("I. FULL, EMPTY (5, 5 at first), PRICE (1 at first)");
        for (int sign = 0; sign < 6; sign++) {
            Check.same("full", new OpenGates().sign(sign, 0, 0), 5);
            Check.same("empty", new OpenGates().sign(sign, 1, 0), 5);
            Check.same("price", new OpenGates().sign(sign, 2, 0), 1);
        }
        Check.about("I. HOURS from FORT to FORT, both ways alike (0 at first: none)");
        OpenGates x = Lands.of(1, 0, 1, 0);
        Check.same("no way at first", x.retreat(0, 1, NONE), NONE);
        Check.same("at first", x.road(0, 1, 7), 0);
        Check.same("there", x.retreat(0, 1, NONE), 7);
        Check.same("back", x.retreat(1, 0, NONE), 7);
        Check.same("none by 0", x.road(1, 0, 0), 7);
        Check.same("no way then", x.retreat(0, 1, NONE), NONE);
        Check.about("I. NEEDS (0 at first)");
        for (int hill = 0; hill < 6; hill++) {
            Check.same("needs", new OpenGates().needs(hill, 9), 0);
        }
        Check.about("I. TERMS (0, 500, 0 at first)");
        Check.same("day", new OpenGates().terms(0, 1), 0);
        Check.same("prior", new OpenGates().terms(1, 1), 500);
        Check.same("mood", new OpenGates().terms(2, 1), 0);
        Check.about("II. one LAW is in FORCE (NONE at first)");
        Check.same("force", new OpenGates().count(13), NONE);
    }

    /** So many come with the numbers from 0 on, the next has no room, and nothing came by it. */
    private static void full(String sentence, int most, int counted, OpenGates x, IntUnaryOperator call) {
        Check.about(sentence);
        for (int i = 0; i < most; i++) {
            int answer = call.applyAsInt(i);
            Check.isTrue("there is room: " + answer, answer == i || counted == 4 && answer == i + 1);
        }
        Check.same("full", call.applyAsInt(most), -5);
        Check.same("status", x.status(), -5);
        Check.same("as many", x.count(counted), most);
        Check.same("still full", call.applyAsInt(0), -5);
        Check.same("refused by -5", x.count(11), 2);
    }

    private static void atMost() {
        OpenGates forts = new OpenGates();
        full("I. FORTS (6 at most)", 6, 0, forts, i -> forts.fort(i, 0));
        OpenGates fires = new OpenGates();
        full("I. FIRES (10 at most)", 10, 3, fires, i -> fires.fire(i));
        OpenGates counted = new OpenGates();
        full("I. COUNTED, 8 at most", 8, 4, counted, i -> counted.counted(i % 6, 0));
        OpenGates sieges = new OpenGates();
        full("I. SIEGES (8 at most)", 8, 2, sieges, i -> sieges.siege(i, i, i));
        OpenGates laws = new OpenGates();
        full("II. LAWS, 6 at most", 6, 5, laws, i -> Texts.law(laws, "bars"));
    }

    private static void firstOfTheRefusals() {
        Check.about("I. REFUSED: the first of these in that order");
        OpenGates x = new OpenGates();
        Check.same("-1 ahead of -2: road", x.road(0, 1, 100), -1);
        Check.same("-1 ahead of -2: alike", x.road(4, 4, 1), -1);
        Check.same("-1 ahead of -2: show", x.show(0, 6), -1);
        Check.same("-1 ahead of -2: hide", x.hide(0, -1), -1);
        Check.same("-1 ahead of -2: man", x.man(0, 100), -1);
        Check.same("-1 ahead of -2: march", x.march(0, 0), -1);
        Check.same("-1 ahead of -3: sieges", x.sieges(1000001, 1), -1);
        Check.same("-1 ahead of -3: sieges", x.sieges(0, 61), -1);
        x.terms(0, 999);
        Check.same("-2 ahead of -3: march on the last day", x.march(1, 0), -2);
        x = Lands.taken(0, 0);
        Check.same("-1 ahead of -3: show", x.show(0, 6), -1);
        Check.same("-1 ahead of -3: hide", x.hide(0, 6), -1);
        Check.same("-1 ahead of -3: man", x.man(0, -100), -1);
        Check.same("-1 ahead of -3: march", x.march(100, 0), -1);
        for (int i = 0; i < 10; i++) {
            x.fort(0, 0);
            x.fire(0);
            x.siege(0, 0, 0);
            x.counted(0, 0);
        }
        Check.same("-1 ahead of -5: fort", x.fort(100, 0), -1);
        Check.same("-1 ahead of -5: fort", x.fort(0, 4), -1);
        Check.same("-1 ahead of -5: fire", x.fire(64), -1);
        Check.same("-1 ahead of -5: siege", x.siege(0, 0, 1000), -1);
        Check.same("-1 ahead of -5: counted", x.counted(6, 0), -1);
        for (int i = 0; i < 6; i++) {
            Texts.law(x, "bars");
        }
        Check.same("-5 ahead of -6: law", Texts.law(x, "x"), -5);
        Check.same("-5 ahead of -6: law, the tape empty", x.law(), -5);
    }

    private static void beliefs() {
        Check.about("III. EVEN is PRIOR times 1,000");
        OpenGates x = Lands.of(1, 0);
        x.terms(1, 1000);
        Check.same("1,000", x.of(0, 4), 1000000);
        x.terms(1, 0);
        Check.same("0", x.of(0, 4), 0);
        x.terms(1, 1);
        Check.same("1", x.of(0, 4), 1000);
        Check.about("III. products of FULL of those that are SHOWN, 10 less FULL of the others");
        x = Lands.of(1, 0);
        x.fame(0, 100);
        x.sign(5, 0, 10);
        Check.same("full would always show it", x.of(0, 4), 0);
        x.show(0, 5);
        // 500 * 10 : 500 * 5
        Check.same("full shows it", x.of(0, 4), 666666);
        x.sign(5, 0, 0);
        Check.same("full never shows it", x.of(0, 4), 0);
        x.sign(5, 0, 5);
        x.sign(5, 1, 0);
        Check.same("empty never shows it", x.of(0, 4), 1000000);
        x.hide(0, 5);
        // 500 * 5 : 500 * 10
        Check.same("empty never shows it", x.of(0, 4), 333333);
        x.sign(5, 1, 10);
        Check.same("empty would always show it", x.of(0, 4), 1000000);
        Check.about("III. of all six");
        x = Lands.of(1, 0);
        x.fame(0, 100);
        for (int sign = 0; sign < 6; sign++) {
            x.sign(sign, 0, 10);
            x.sign(sign, 1, 1);
            x.show(0, sign);
        }
        // 10^6 : 1
        Check.same("nearly all", x.of(0, 4), 999999);
        for (int sign = 0; sign < 6; sign++) {
            x.sign(sign, 0, 1);
            x.sign(sign, 1, 10);
        }
        Check.same("cut to nothing", x.of(0, 4), 0);
        bothAreNothing();
        beliefByFame();
    }

    private static void bothAreNothing() {
        Check.about("III. (EVEN, if both are 0)");
        OpenGates x = Lands.of(1, 0);
        x.fame(0, 100);
        x.terms(1, 700);
        x.sign(0, 0, 10);
        x.sign(1, 1, 10);
        Check.same("by two signs", x.of(0, 4), 700000);
        x.show(0, 0);
        Check.same("one of both", x.of(0, 4), 1000000);
        x.terms(1, 0);
        Check.same("by a sign and PRIOR 0", x.of(0, 4), 0);
    }

    private static void beliefByFame() {
        Check.about("III. FAME times that and 100 less FAME times EVEN, by 100, cut");
        OpenGates x = Lands.of(1, 0, 1, 1);
        x.show(0, 0);
        x.sign(0, 0, 10);
        x.sign(0, 1, 5);
        x.fame(0, 0);
        Check.same("without fame", x.of(0, 4), 500000);
        x.fame(0, 100);
        Check.same("with all fame", x.of(0, 4), 666666);
        x.fame(0, 99);
        // (99 * 666666 + 500000) / 100 = 66499934 / 100
        Check.same("cut", x.of(0, 4), 664999);
        x.fame(0, 1);
        // (666666 + 99 * 500000) / 100 = 50166666 / 100
        Check.same("cut", x.of(0, 4), 501666);
        // 50 of 100 of 0 (full would always show it) and of EVEN
        Check.same("the other general's", x.of(1, 4), 250000);
    }

    private static void showing() {
        Check.about("III. To SHOW a SIGN that is not SHOWN");
        OpenGates x = Lands.of(1, 0);
        Check.same("not shown", x.show(0, 5), 1);
        Check.same("shown", x.show(0, 5), -3);
        Check.same("once", x.of(0, 2), 32);
        Check.about("III. To SHOW a SIGN, not BARRED");
        x = Lands.under("bars if sign = 2 and fort = 0", 1, 0, 1, 0);
        Check.same("barred", x.show(0, 2), -3);
        Check.same("not there", x.show(1, 2), 1);
        Check.same("not that one", x.show(0, 3), 1);
        Check.same("shown", x.of(0, 2), 8);
        Check.about("III. To SHOW at a FORT that is not TAKEN");
        x = Lands.taken(0, 0);
        Check.same("taken", x.show(0, 0), -3);
        Check.same("shown", x.of(0, 2), 0);
    }

    private static void hiding() {
        Check.about("III. to HIDE one that is");
        OpenGates x = Lands.of(1, 0);
        Check.same("not shown", x.hide(0, 0), -3);
        x.show(0, 0);
        x.show(0, 5);
        Check.same("shown", x.hide(0, 0), 32);
        Check.same("no more", x.hide(0, 0), -3);
        Check.same("the last", x.hide(0, 5), 0);
        Check.about("III. to HIDE at a FORT that is not TAKEN");
        x = Lands.unbelieved(0, 0);
        x.show(0, 4);
        x.march(1, 0);
        Check.same("taken", x.hide(0, 4), -3);
        Check.same("shown still", x.of(0, 2), 16);
    }

    private static void manning() {
        Check.about("III. MEN by -99 .. 99 more, 0 .. 99 then");
        OpenGates x = Lands.of(50, 0);
        Check.same("one too many", x.man(0, 50), -3);
        Check.same("as it was", x.of(0, 0), 50);
        Check.same("just full", x.man(0, 49), 99);
        Check.same("one too few", x.man(0, -100), -1);
        Check.same("to none", x.man(0, -99), 0);
        Check.same("below none", x.man(0, -1), -3);
        Check.same("by none", x.man(0, 0), 0);
        Check.about("III. To MAN a FORT that is not TAKEN");
        Check.same("taken", Lands.taken(5, 0).man(0, 0), -3);
    }

    private static void marching() {
        Check.about("III. To MARCH to a FORT that is not TAKEN");
        Check.same("taken", Lands.taken(5, 0).march(9, 0), -3);
        Check.about("III. (DAY below 999)");
        OpenGates x = Lands.of(5, 0);
        x.terms(0, 998);
        Check.same("998", x.march(9, 0), 1);
        Check.same("999", x.march(9, 0), -3);
        Check.same("no day more", x.count(14), 999);
        Check.about("III. if it has more men than the FORT, that is TAKEN");
        x = Lands.unbelieved(0, 0, 98, 0, 99, 0);
        Check.same("one against none", x.march(1, 0), 2);
        Check.same("99 against 98", x.march(99, 1), 2);
        Check.same("the men stay", x.of(1, 0), 98);
        Check.same("99 against 99", x.march(99, 2), 0);
        Check.about("III. MEN are less by a third of the army's (cut)");
        Check.same("by 33", x.of(2, 0), 66);
        x.march(2, 2);
        Check.same("by none", x.of(2, 0), 66);
        x.march(5, 2);
        Check.same("by one", x.of(2, 0), 65);
        Check.about("III. it TURNS: the FORT is as it was else");
        x = Lands.of(5, 0);
        x.show(0, 1);
        x.march(99, 0);
        Check.same("men", x.of(0, 0), 5);
        Check.same("shown", x.of(0, 2), 2);
        Check.same("taken", x.of(0, 3), 0);
        Check.about("III. it is the next DAY");
        Check.same("day", x.count(14), 1);
        Check.about("II. An army TURNS, if BELIEF is as many hundredths or more");
        x.terms(1, 500);
        Check.same("just as many", x.march(99, 0), 1);
        x.terms(1, 499);
        Check.same("less", x.march(99, 0), 2);
        x = Lands.of(5, 0);
        x.fame(0, 1);
        x.sign(0, 0, 7);
        x.sign(0, 1, 8);
        x.sign(1, 0, 9);
        x.sign(1, 1, 8);
        x.show(0, 0);
        x.show(0, 1);
        // 63 : 64 by one of a hundred
        Check.same("49.996 hundredths", x.of(0, 4), 499960);
        Check.same("a little less", x.march(99, 0), 2);
    }

    private static int fameBehind(String law, int fame, int prior, int army) {
        OpenGates x = Lands.under(law, 9, 2);
        x.fame(2, fame);
        x.terms(1, prior);
        x.march(army, 0);
        return x.count(19);
    }

    private static void fameOfAMarch() {
        Check.about("III. FAME of its GENERAL changes (0 .. 100)");
        Check.same("to 100", fameBehind("fame 20", 80, 500, 9), 100);
        Check.same("not beyond 100", fameBehind("fame 20", 81, 500, 9), 100);
        Check.same("to 0", fameBehind("fame 0-20", 20, 500, 9), 0);
        Check.same("not below 0", fameBehind("fame 0-20", 19, 500, 9), 0);
        Check.about("II. FAME changes by -20 .. 20 (else the nearest)");
        Check.same("20 at most", fameBehind("fame 21", 50, 500, 9), 70);
        Check.same("-20 at least", fameBehind("fame 0-21", 50, 500, 9), 30);
        Check.same("far too much", fameBehind("fame 1000*1000*1000", 50, 500, 9), 70);
        Check.same("far too little", fameBehind("fame 0-1000*1000*1000", 50, 500, 9), 30);
        Check.about("II. 0 without");
        Check.same("another clause", fameBehind("turns 1", 50, 500, 9), 50);
        Check.same("broken", fameBehind("fame 1/0", 50, 500, 9), 50);
        Check.about("II. end of \"fame\": what the march told");
        Check.same("0", fameBehind("fame end+1", 50, 0, 9), 51);
        Check.same("1", fameBehind("fame end+1", 50, 500, 9), 52);
        Check.same("2", fameBehind("fame end+1", 50, 0, 10), 53);
        Check.about("III. asked with MEN, FAME, DAY as they are then");
        Check.same("men are less already", fameBehind("fame men", 50, 0, 9), 56);
        Check.same("men of a fort that is taken", fameBehind("fame men", 50, 0, 10), 59);
        Check.same("fame not changed yet", fameBehind("fame known", 7, 0, 9), 14);
        Check.same("still this day", fameBehind("fame day*20", 50, 0, 9), 50);
        Check.about("III. FAME of its GENERAL alone");
        OpenGates x = Lands.under("fame 5", 1, 1, 1, 2);
        x.march(1, 1);
        int[] due = {50, 50, 55, 50};
        for (int general = 0; general < 4; general++) {
            Check.same("general " + general, x.count(17 + general), due[general]);
        }
    }

    private static void cheapestShows() {
        Check.about("III. SIGNS (not BARRED, or SHOWN already)");
        OpenGates x = Lands.under("bars if sign=0;turns 60", 1, 0);
        x.fame(0, 100);
        x.sign(0, 0, 9);
        x.sign(0, 1, 1);
        Check.same("barred", x.bluff(0, 9, 0), NONE);
        x.force(NONE);
        x.show(0, 0);
        x.force(0);
        Check.same("barred, but shown", x.bluff(0, 9, 1), 1);
        Check.about("III. if just these were SHOWN");
        x = Lands.of(1, 0);
        x.fame(0, 100);
        x.sign(3, 0, 1);
        x.sign(3, 1, 9);
        x.show(0, 3);
        Check.same("it does not turn now", x.asks(0, 9, 3), 0);
        Check.same("by none shown", x.bluff(0, 9, 1), 0);
        Check.same("which pays nothing", x.bluff(0, 9, 0), 0);
        Check.about("III. what all of them PAY together, least; the lowest as bits");
        x = Lands.of(1, 0);
        x.fame(0, 100);
        x.terms(1, 200);
        for (int sign = 1; sign < 4; sign++) {
            x.sign(sign, 0, 6);
            x.sign(sign, 1, 3);
        }
        x.sign(1, 2, 5);
        // 200 * 6 * 6 * 6 : 800 * 3 * 3 * 3 is even; 200 * 6 * 6 * 4 : 800 * 3 * 3 * 7 is less.
        Check.same("three", x.bluff(0, 9, 1), 14);
        Check.same("three", x.bluff(0, 9, 0), 7);
        x.terms(1, 400);
        // 400 * 6 * 6 * 4 : 600 * 3 * 3 * 7 is more than even; by one sign it is less.
        Check.same("two, the cheap ones", x.bluff(0, 9, 1), 12);
        Check.same("two", x.bluff(0, 9, 0), 2);
        x.sign(1, 2, 1);
        Check.same("all cost the same: the lowest", x.bluff(0, 9, 1), 6);
        x.sign(3, 2, 0);
        Check.same("cheaper ahead of lower", x.bluff(0, 9, 1), 10);
        x.sign(1, 2, 0);
        x.sign(2, 2, 0);
        Check.same("nothing costs: the lowest", x.bluff(0, 9, 1), 6);
    }

    private static void scouts() {
        Check.about("III. SHOWN or not, all others as they are, BELIEF differs most; the lowest");
        OpenGates x = Lands.of(1, 0);
        Check.same("by nothing: the lowest", x.scout(0, 0), 0);
        Check.same("by nothing", x.scout(0, 1), 0);
        x.fame(0, 100);
        x.sign(5, 0, 6);
        x.sign(5, 1, 4);
        Check.same("the last", x.scout(0, 0), 5);
        Check.same("600000 - 400000", x.scout(0, 1), 200000);
        x.show(0, 5);
        Check.same("shown: as much", x.scout(0, 1), 200000);
        x.sign(2, 0, 4);
        x.sign(2, 1, 6);
        // Without 2: 6 * 6 : 4 * 4; with 2: 6 * 4 : 4 * 6. By 5 with 2 not shown: 36 : 16 and 24 : 24.
        Check.same("as much by both: the lowest", x.scout(0, 0), 2);
        x.fame(0, 0);
        Check.same("without fame by nothing", x.scout(0, 1), 0);
        Check.same("the lowest", x.scout(0, 0), 0);
    }

    private static void holding() {
        Check.about("III. each of which has 9, 19, .. 99 men alike likely");
        int[] men = {0, 8, 9, 18, 19, 89, 98, 99};
        int[] withstood = {0, 0, 1, 1, 2, 9, 9, 10};
        for (int i = 0; i < men.length; i++) {
            Check.same(men[i] + " men", Lands.unbelieved(men[i], 0).holds(0, 1), withstood[i] * 100000000000L);
        }
        Check.about("III. by 10, cut, for each army");
        OpenGates x = Lands.unbelieved(29, 0);
        // 3 of 10, thirteen times: 10^12 * 3^13 / 10^13 = 1594323 / 10
        Check.same("cut once", x.holds(0, 13), 159432);
        // 159432 * 3 / 10 = 47829.6; 47829 * 3 / 10 = 14348.7; 1594323 * 9 / 1000 = 14348.9
        Check.same("cut twice", x.holds(0, 14), 47829);
        Check.same("cut three times", x.holds(0, 15), 14348);
        Check.same("at most thirty", x.holds(0, 30), 0);
        Check.about("III. (all as now for each of them)");
        x = Lands.under("fame 0-20;turns known", 5, 0);
        Check.same("no fame is lost", x.holds(0, 30), 1000000000000L);
    }

    private static void retreats() {
        Check.about("III. through FORTS that are not TAKEN (both ends aside)");
        OpenGates x = Lands.unbelieved(5, 0, 5, 0, 5, 0);
        x.road(0, 1, 1);
        x.road(1, 2, 1);
        x.march(9, 0);
        x.march(9, 2);
        Check.same("both ends are taken", x.retreat(0, 2, NONE), 2);
        x.march(9, 1);
        Check.same("what is between is taken", x.retreat(0, 2, NONE), NONE);
        Check.same("from end to end", x.retreat(0, 1, NONE), 1);
        Check.about("III. the fewest HOURS; at each step, of the quickest rows, the lowest FORT");
        x = Lands.of(1, 0, 1, 0, 1, 0, 1, 0, 1, 0, 1, 0);
        x.road(5, 0, 99);
        Check.same("the longest road", x.retreat(5, 0, NONE), 99);
        for (int fort = 0; fort < 5; fort++) {
            x.road(fort, fort + 1, 1);
        }
        Check.same("by all of them", x.retreat(5, 0, NONE), 5);
        for (int i = 0; i < 5; i++) {
            Check.same("step " + i, x.retreat(5, 0, i), 4 - i);
        }
        Check.same("no more", x.retreat(5, 0, 5), NONE);
        x.road(5, 0, 5);
        Check.same("alike quick: the lowest is the end itself", x.retreat(5, 0, 0), 0);
        Check.same("and there it ends", x.retreat(5, 0, 1), NONE);
        Check.same("back: the lowest", x.retreat(0, 5, 0), 1);
    }

    private static void rest(String sentence, int[] entries, int... due) {
        Check.about(sentence);
        OpenGates x = new OpenGates();
        for (int what = 0; what < 4; what++) {
            Check.same("what " + what, x.game(entries[0], entries[1], entries[2], entries[3], what), due[what]);
        }
    }

    private static void games() {
        rest("III. that (the first by rows)", new int[] {7, 7, 7, 7}, 1, 1, 7, 1);
        rest("III. the first by rows: the second entry", new int[] {5, 3, 9, 2}, 1, 1, 3, 1);
        rest("III. the first by rows: the third entry", new int[] {2, 9, 3, 4}, 0, 1, 3, 1);
        rest("III. the first by rows: the fourth entry", new int[] {9, 1, 4, 3}, 0, 1, 3, 1);
        rest("III. the least of its row, alike: the first", new int[] {3, 3, 1, 9}, 1, 1, 3, 1);
        rest("III. the greatest of its column, alike: the first", new int[] {3, 5, 3, 9}, 1, 1, 3, 1);
        rest("III. the least of its row, alike: the second", new int[] {3, 3, 9, 1}, 1, 1, 3, 1);
        rest("III. the greatest of its column, alike: the second", new int[] {5, 3, 9, 3}, 1, 1, 3, 1);
        rest("III. the least of its row, alike: the third", new int[] {1, 9, 3, 3}, 0, 1, 3, 1);
        rest("III. the greatest of its column, alike: the third", new int[] {3, 1, 3, 9}, 0, 1, 3, 1);
        rest("III. the least of its row, alike: the fourth", new int[] {9, 1, 3, 3}, 0, 1, 3, 1);
        rest("III. the greatest of its column, alike: the fourth", new int[] {1, 3, 9, 3}, 0, 1, 3, 1);
        rest("III. what is below turned to be above 0", new int[] {-99, 99, 99, -99}, 1, 2, 0, 1);
        rest("III. what is below turned, worth below 0", new int[] {-9, 1, 3, -4}, 7, 17, -33, 17);
        rest("III. lowest terms", new int[] {8, 2, 0, 6}, 1, 2, 4, 1);
        rest("III. -99 .. 99", new int[] {99, -99, -98, 99}, 197, 395, 99, 395);
        rest("III. -99 .. 99: the least", new int[] {-99, -99, -99, -99}, 1, 1, -99, 1);
    }

    private static void careers() {
        Check.about("III. careful: NAME is one more (10 at most)");
        OpenGates x = new OpenGates();
        x.siege(0, 10, 0);
        x.siege(0, 10, 100);
        Check.same("from 10 still 10", x.career(10, 0), 100);
        Check.same("from 9 to 10", x.career(9, 0), 100);
        Check.same("from 8 to 9 is too little", x.career(8, 0), 0);
        Check.about("III. bold: if NAME is as needed or more");
        x = new OpenGates();
        x.siege(99, 5, 50);
        Check.same("more", x.career(6, 0), 50);
        Check.same("as needed", x.career(5, 0), 50);
        Check.same("less: as much lost", x.career(4, 0), -50);
        Check.same("still bold", x.career(4, 1), 1);
        Check.about("III. NAME is 0 then");
        x.siege(99, 1, 10);
        Check.same("it was won", x.career(10, 0), 40);
        Check.same("it was lost", x.career(3, 0), -60);
        Check.about("III. the first as a row (0 careful, 1 bold)");
        x = new OpenGates();
        x.siege(0, 0, 0);
        x.siege(0, 0, 0);
        Check.same("all alike: careful", x.career(0, 1), 0);
        Check.same("all alike: careful", x.career(0, 2), 0);
        x = new OpenGates();
        x.siege(5, 1, 9);
        x.siege(1, 1, 3);
        x.siege(1, 1, 9);
        // Bold, careful, bold: 9 - 1 + 9.
        int[] row = {1, 0, 1};
        for (int k = 0; k < 3; k++) {
            Check.same("siege " + k, x.career(1, 1 + k), row[k]);
        }
        Check.same("the most", x.career(1, 0), 17);
        careerByName();
        Check.about("III. through SIEGES in order, none");
        Check.same("nothing", new OpenGates().career(10, 0), 0);
        Check.about("III. the most together, of eight");
        x = new OpenGates();
        for (int k = 0; k < 8; k++) {
            x.siege(99, 10, 999);
        }
        // careful from 3 seven times: 10, then bold: 999 - 7 * 99
        Check.same("seven careful", x.career(3, 0), 999 - 693);
        Check.same("then bold", x.career(3, 8), 1);
        Check.same("never enough", x.career(2, 0), -8 * 99);
    }

    private static void careerByName() {
        Check.about("III. NAME is 0 then: what is done next");
        OpenGates x = new OpenGates();
        x.siege(99, 0, 9);
        x.siege(1, 1, 9);
        Check.same("bold", x.career(10, 1), 1);
        Check.same("careful, without a NAME", x.career(10, 2), 0);
        Check.same("9 - 1", x.career(10, 0), 8);
        Check.about("III. NAME is one more: what is done next");
        x = new OpenGates();
        x.siege(0, 10, 99);
        x.siege(1, 2, 9);
        Check.same("careful", x.career(0, 1), 0);
        Check.same("careful, 1 is less than 2", x.career(0, 2), 0);
        Check.same("bold, 2 is enough", x.career(1, 2), 1);
        Check.about("III. through SIEGES in order, fewer than there were");
        x.forget();
        x.siege(0, 0, 5);
        Check.same("that alone", x.career(10, 0), 5);
        Check.same("that alone", x.career(0, 0), 5);
    }

    private static void enough() {
        Check.about("III. the fewest FIRES so that from each HILL so many as it NEEDS are seen");
        OpenGates x = new OpenGates();
        Check.same("nothing needed, no fires", x.enough(0), 0);
        for (int i = 0; i < 10; i++) {
            x.fire(32);
        }
        Check.same("nothing needed", x.enough(1), 0);
        x.needs(5, 9);
        Check.same("nine of ten", x.enough(0), 9);
        Check.about("III. the lowest as bits");
        Check.same("the lowest nine", x.enough(1), 511);
        x.needs(0, 1);
        Check.same("one hill sees none", x.enough(1), NONE);
        x.forget();
        x.needs(0, 0);
        x.needs(5, 1);
        x.fire(0);
        x.fire(32);
        x.fire(32);
        Check.same("the lowest of those that are seen", x.enough(1), 2);
        x.forget();
        x.needs(0, 1);
        x.fire(1);
        x.fire(32);
        x.fire(33);
        Check.same("the fewest, though others are lower", x.enough(1), 4);
        Check.same("one", x.enough(0), 1);
    }

    private static void fitting() {
        Check.about("III. from each HILL that was COUNTED just so many are seen");
        OpenGates x = new OpenGates();
        Check.same("no fires: one set, of none", x.fits(NONE), 1);
        Check.same("of none", x.fits(0), 0);
        Check.same("no more", x.fits(1), NONE);
        x.counted(0, 1);
        Check.same("one was seen, there are none", x.fits(NONE), 0);
        x.forget();
        for (int i = 0; i < 10; i++) {
            x.fire(i == 9 ? 2 : 1);
        }
        Check.same("nothing counted: all sets", x.fits(NONE), 1024);
        Check.same("the last", x.fits(1023), 1023);
        Check.same("no more", x.fits(1024), NONE);
        Check.same("far more", x.fits(Integer.MAX_VALUE), NONE);
        x.counted(0, 9);
        Check.same("all nine, the tenth or not", x.fits(NONE), 2);
        Check.same("without", x.fits(0), 511);
        Check.same("with", x.fits(1), 1023);
        x.counted(0, 9);
        Check.same("counted twice alike", x.fits(NONE), 2);
        x.counted(0, 8);
        Check.same("counted otherwise", x.fits(NONE), 0);
    }

    private static void countedNext() {
        Check.about("III. the most of these sets show as many as few as can be; the lowest");
        OpenGates x = new OpenGates();
        Check.same("no fires: the lowest", x.next(0), 0);
        Check.same("one set", x.next(1), 1);
        x.fire(48);
        x.fire(32);
        // Hill 5: 0, 1, 1, 2; hill 4: 0, 1, 0, 1.
        Check.same("as many by both: the lowest", x.next(0), 4);
        Check.same("two", x.next(1), 2);
        x.fire(32);
        // Hill 5: 1, 3, 3, 1; hill 4: 4, 4.
        Check.same("fewer by the last", x.next(0), 5);
        Check.same("three", x.next(1), 3);
        x.counted(5, 2);
        // {0, 1}, {0, 2}, {1, 2}: hill 4 shows 1, 1, 0.
        Check.same("not again where it is known", x.next(0), 4);
        Check.same("two", x.next(1), 2);
        x.counted(4, 9);
        Check.same("none is FITTING", x.next(0), NONE);
        Check.same("none is FITTING", x.next(1), NONE);
        x.forget();
        x.fire(62);
        Check.same("alike from 1 on: the lowest of these", x.next(0), 1);
        x.forget();
        for (int i = 0; i < 10; i++) {
            x.fire(i == 0 ? 3 : 2);
        }
        x.counted(0, 1);
        Check.same("hill 1 sees from one to ten", x.next(0), 1);
        Check.same("five or six of ten, the first among them", x.next(1), 126);
        x.forget();
        for (int i = 0; i < 10; i++) {
            x.fire(i == 0 ? 6 : 3);
        }
        x.counted(0, 9);
        x.counted(2, 1);
        Check.same("all ten: hill 1 sees as many", x.fits(0), 1023);
        Check.same("the lowest", x.next(0), 0);
        Check.same("one is left", x.next(1), 1);
    }

    private static void draws() {
        Check.about("IV. s becomes (s times 1103 and 12345) modulo 1,000,003");
        // 1,000,000 gives 9036, 979026, 874786: an army of 15 and 1, sign 4.
        OpenGates x = Lands.unbelieved(16, 0);
        Check.same("none turns", x.sieges(1000000, 1), 0);
        Check.same("an army of 16 takes none with 16", x.drawn(0, 1), 0);
        Check.same("a third less", x.drawn(0, 0), 16 - 5);
        Check.same("sign 4", x.drawn(0, 2), 16);
        x = Lands.unbelieved(15, 0);
        x.sieges(1000000, 1);
        Check.same("an army of 16 takes one with 15", x.drawn(0, 1), 1);
        Check.about("IV. an army marches there, if it can");
        x = Lands.of(43, 0);
        x.terms(0, 999);
        Check.same("not on the last day", x.sieges(1000000, 1), 0);
        Check.same("but the sign is shown", x.drawn(0, 2), 16);
        x.terms(0, 990);
        Check.same("nine days are left", x.sieges(1000000, 60), 9);
        x = Lands.taken(0, 0);
        Check.same("not to one that is taken", x.sieges(1000000, 60), 0);
        Check.about("IV. the SIGN drawn is HIDDEN there, if it is SHOWN, else SHOWN, if it can be");
        Check.same("taken: none is shown", x.drawn(0, 2), 0);
        x = Lands.of(43, 0);
        x.show(0, 4);
        x.sieges(1000000, 1);
        Check.same("hidden", x.drawn(0, 2), 0);
        x = Lands.under("bars", 43, 0);
        x.sieges(1000000, 1);
        Check.same("barred", x.drawn(0, 2), 0);
        Check.about("IV. SIEGES by draws, on paper");
        x = Lands.under("fame 3", 43, 0);
        Check.same("all turn", x.sieges(0, 60), 60);
        Check.same("fame behind", x.drawn(0, 3), 100);
        Check.same("fame", x.count(17), 50);
        Check.same("day", x.count(14), 0);
        Check.same("shown", x.of(0, 2), 0);
        Check.same("nothing to undo", x.undo(), -3);
    }

    private static int row(OpenGates x, int... bytes) {
        StringBuilder text = new StringBuilder();
        for (int b : bytes) {
            text.append((char) b);
        }
        Texts.feed(x, text.toString());
        return x.row();
    }

    private static void rows() {
        OpenGates x = new OpenGates();
        Check.about("IV. A ROW: one that can't be");
        Check.same("none", row(x, 100, 0, 0, 4, 255, 255, 128, 0), 0);
        Check.same("four brooms", x.brooms(), 4);
        Check.same("the edges can be", row(x, 99, 3, 0, 0), 2);
        Check.same("no broom", x.brooms(), 0);
        Check.about("IV. one within which the TAPE ends");
        Check.same("one byte", row(x, 5), 0);
        Check.same("a broom", x.brooms(), 1);
        x.feed(0, 0, 0, 0, 0);
        x.end(1);
        Check.same("one byte, whatever stood behind it", x.row(), 0);
        Check.same("a broom", x.brooms(), 1);
        Check.same("three bytes", row(x, 5, 1, 5), 1);
        Check.same("a broom", x.brooms(), 1);
        Check.about("IV. one for which there is no room");
        Check.same("three of four", row(x, 1, 1, 2, 1, 3, 1, 4, 1), 3);
        Check.same("a broom", x.brooms(), 1);
        Check.same("full", row(x, 1, 1), 0);
        Check.same("a broom", x.brooms(), 1);
        Check.same("not refused", x.status(), 0);
        Check.same("forts", x.count(0), 6);
        Check.same("the last that came", x.of(5, 0), 3);
        Check.about("IV. the TAPE's bytes by twos, all 400");
        OpenGates y = new OpenGates();
        for (int i = 0; i < 20; i++) {
            y.feed(0x07020703, 0x07020703, 0x07020703, 0x07020703, 0x07020703);
        }
        Check.same("six", y.row(), 6);
        Check.same("all others", y.brooms(), 194);
        Check.same("tape", y.count(7), 0);
    }

    private static void images() {
        Check.about("IV. IMAGES keep all but the TAPE, FAULT, BROOMS, where ORDERS stopped");
        OpenGates x = Lands.of(5, 0);
        x.image(0);
        row(x, 1);
        Texts.orders(x, "march 0 to 0");
        Texts.law(x, "turns");
        x.feed(0, 0, 0, 0, 0);
        x.back(0);
        Check.same("brooms", x.brooms(), 1);
        Check.same("stopped", x.stopped(), 0);
        Check.same("fault", x.fault(), 5);
        Check.same("tape", x.count(7), 20);
        Check.about("IV. what can be undone (nothing, behind back())");
        x.man(0, 1);
        x.image(0);
        Check.same("image() leaves it", x.count(6), 1);
        x.back(0);
        Check.same("behind back()", x.undo(), -3);
        Check.same("men", x.of(0, 0), 6);
        Check.about("IV. the latest SIEGES by draws");
        x.sieges(1, 1);
        x.back(0);
        Check.same("drawn", x.drawn(0, 0), 6);
        Check.about("IV. BACK to one all that it keeps is as it was then (IMAGES stay)");
        x.image(1);
        x.fort(7, 1);
        x.back(0);
        Check.same("forts", x.count(0), 1);
        x.man(0, 3);
        x.back(0);
        Check.same("again", x.of(0, 0), 6);
        x.image(0);
        x.man(0, 9);
        x.image(0);
        x.back(1);
        Check.same("the other one", x.of(0, 0), 6);
        x.back(0);
        Check.same("the latest of that number", x.of(0, 0), 15);
        x = Lands.of(1, 0, 1, 0, 1, 0, 1, 0, 1, 0, 1, 0);
        x.image(0);
        x.road(4, 5, 7);
        x.back(0);
        Check.same("a road that came later", x.road(4, 5, 1), 0);
        imageOfAnEmptyLand();
    }

    private static void imageOfAnEmptyLand() {
        Check.about("IV. BACK from where all is full to where nothing was");
        OpenGates x = new OpenGates();
        x.image(0);
        for (int i = 0; i < 10; i++) {
            x.fort(98, 3);
            x.fire(62);
            x.siege(1, 1, 5);
            x.counted(1, 1);
            Texts.law(x, "turns 1");
        }
        x.force(5);
        x.road(0, 1, 9);
        x.road(5, 4, 8);
        x.show(0, 0);
        x.fame(3, 4);
        x.terms(2, 9);
        for (int what = 0; what < 3; what++) {
            x.sign(0, what, 3);
            x.sign(5, what, 3);
        }
        x.terms(1, 0);
        Check.same("taken", x.march(99, 0), 2);
        x.needs(1, 9);
        x.image(1);
        x.back(0);
        int[] due = {0, 0, 0, 0, 0, 0, 0};
        for (int what = 0; what < due.length; what++) {
            Check.same("count(" + what + ")", x.count(what), due[what]);
        }
        Check.same("force", x.force(0), -2);
        Check.same("no law in force", x.count(13), NONE);
        Check.same("prior", x.terms(1, 500), 500);
        Check.same("mood", x.terms(2, 0), 0);
        Check.same("fame", x.count(20), 50);
        int[] first = {5, 5, 1};
        for (int what = 0; what < 3; what++) {
            Check.same("sign 0", x.sign(0, what, 0), first[what]);
            Check.same("sign 5", x.sign(5, what, 0), first[what]);
        }
        Check.same("fort", x.fort(2, 2), 0);
        Check.same("fort", x.fort(3, 2), 1);
        Check.same("nothing shown", x.of(0, 2), 0);
        Check.same("not taken", x.of(0, 3), 0);
        Check.same("no road", x.road(0, 1, 3), 0);
        Check.same("needs", x.needs(1, 1), 0);
        Check.same("fire", x.fire(0), 0);
        Check.same("the old fires are not seen", x.enough(0), NONE);
        Check.same("siege", x.siege(0, 9, 0), 0);
        Check.same("siege", x.siege(9, 9, 9), 1);
        Check.same("counted", x.counted(0, 0), 1);
        Check.same("law", Texts.law(x, "turns 7"), 0);
        x.back(1);
        int[] full = {6, 1, 8, 10, 8, 6, 0};
        for (int what = 0; what < full.length; what++) {
            Check.same("count(" + what + ")", x.count(what), full[what]);
        }
        Check.same("force", x.count(13), 5);
        Check.same("the law as it was", x.asks(0, 9, 2), 1);
        x.force(0);
        Check.same("the first law as it was", x.asks(0, 9, 2), 1);
        Check.same("road", x.road(1, 0, 9), 9);
        Check.same("road", x.road(4, 5, 8), 8);
        Check.same("general", x.of(0, 1), 3);
        Check.same("fame", x.count(20), 4);
        Check.same("mood", x.count(16), 9);
        Check.same("what was counted from hill 1", x.fits(NONE), 10);
        // Bold and careful by turns.
        Check.same("the sieges", x.career(1, 0), 4 * 5 - 4);
        for (int what = 0; what < 3; what++) {
            Check.same("sign 0", x.sign(0, what, 0), 3);
            Check.same("sign 5", x.sign(5, what, 0), 3);
        }
    }
}
