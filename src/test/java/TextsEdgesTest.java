/** The edges that part II of the document's terms names, a test for each sentence. */
public final class TextsEdgesTest {
    private static final int NONE = OpenGates.NONE;
    private static final boolean LAW = true;
    private static final boolean ORDERS = false;
    private static final int BROKEN = -1000;

    public static void main(String[] args) {
        tape();
        tokens();
        clauses();
        numbers();
        parts();
        brackets();
        faultAtTheEnd();
        faultAtTheFirst();
        beyond();
        divided();
        shortcuts();
        precedence();
        lawWordsOfSigns();
        lawWordsOfArmies();
        holding();
        turning();
        paying();
        barring();
        orderHeads();
        times();
        fortsAndGenerals();
        doneAndLatest();
        withoutSuchAFort();
        notRun();
        cantBe();
        Check.finish();
    }

    private static int read(OpenGates x, boolean law, String text) {
        return law ? Texts.law(x, text) : Texts.orders(x, text);
    }

    /** The place of the fault is marked by an @, which is not on the tape. */
    private static void fails(boolean law, String marked) {
        OpenGates x = new OpenGates();
        String text = marked.replace("@", "");
        Check.same("REFUSED: " + marked, read(x, law, text), -6);
        Check.same("FAULT: " + marked, x.fault(), marked.indexOf('@'));
        Check.same("status: " + marked, x.status(), -6);
        Check.same("tape: " + marked, x.count(7), 0);
        Check.same("laws: " + marked, x.count(5), 0);
    }

    private static void reads(boolean law, String text) {
        OpenGates x = new OpenGates();
        Check.isTrue("read: " + text, read(x, law, text) != -6);
        Check.same("FAULT: " + text, x.fault(), NONE);
        Check.same("tape: " + text, x.count(7), 0);
    }

    private static void tape() {
        Check.about("II. TEXTS are on a TAPE of at most 400 bytes");
        String blanks = Texts.repeat(" ", 396);
        reads(LAW, blanks + "bars");
        reads(LAW, "bars" + blanks);
        reads(LAW, "turns " + Texts.repeat("0", 394));
        fails(LAW, blanks + " @bar");
        fails(LAW, "@" + Texts.repeat("x", 400));
        fails(ORDERS, "@" + Texts.repeat(";", 400));
        Check.about("II. each TEXT has all the room, however many were read");
        OpenGates x = Lands.of(0, 0);
        String long50 = "man 0 by 1 if 1" + Texts.repeat("+1", 45) + "=46";
        for (int i = 1; i <= 40; i++) {
            Check.same("orders", Texts.orders(x, long50), 1);
            Check.same("men", x.of(0, 0), i);
        }
        Check.same("a law behind them", Texts.law(x, "turns 1" + Texts.repeat("+1", 49)), 0);
        x.force(0);
        Check.same("fifty ones", x.asks(0, 9, 2), 50);
    }

    private static void tokens() {
        Check.about("II. longest rows of letters a .. z");
        fails(LAW, "@barsif 1=1");
        fails(LAW, "bars @iff 1=1");
        fails(LAW, "@bar s");
        fails(LAW, "turns @menday");
        fails(LAW, "@Bars");
        fails(LAW, "bars@`");
        fails(LAW, "bars@{");
        fails(LAW, "@barsz");
        fails(LAW, "bars@Z");
        Check.about("II. of digits");
        fails(LAW, "turns 1 @2");
        fails(LAW, "turns @12345");
        reads(LAW, "turns1if1=1or2=2");
        fails(LAW, "turns 1@:");
        fails(LAW, "turns @/1");
        Check.about("II. single other bytes");
        reads(LAW, "turns[[1]]");
        fails(LAW, "bars if 1<@<2");
        fails(LAW, "bars if 1<@=2");
        fails(LAW, "bars@" + (char) 0);
        fails(LAW, "bars@" + (char) 255);
        fails(LAW, "turns @" + (char) 255);
        fails(LAW, "bars@_");
        Check.about("II. any blanks (32) between");
        reads(LAW, "  turns   1   +   2   ;   bars   ");
        fails(LAW, "bars@\tif 1=1");
        fails(LAW, "bars@\n");
        fails(LAW, "bars@" + (char) 160);
    }

    private static void clauses() {
        Check.about("II. CLAUSE {\";\" CLAUSE}, 12 at most (FAULT at the 13th's first TOKEN)");
        String laws = "bars" + Texts.repeat(";bars", 11);
        reads(LAW, laws);
        fails(LAW, laws + ";@bars");
        fails(LAW, laws + ";  @turns 5");
        fails(LAW, laws + "; @?");
        fails(LAW, laws + ";@");
        fails(LAW, laws + ";  @");
        String orders = "man 0 by 1" + Texts.repeat(";man 0 by 1", 11);
        reads(ORDERS, orders);
        fails(ORDERS, orders + ";@man 0 by 1");
        Check.about("II. CLAUSE {\";\" CLAUSE}");
        fails(LAW, "bars;@");
        fails(LAW, "@;bars");
        fails(LAW, "bars;@;bars");
        fails(LAW, "bars @bars");
        fails(ORDERS, "man 0 by 1;@");
        fails(ORDERS, "man 0 by 1 @man 0 by 1");
    }

    private static void numbers() {
        Check.about("II. NUMBER (to 1,000)");
        reads(LAW, "turns 0");
        reads(LAW, "turns 1000");
        fails(LAW, "turns @1001");
        fails(LAW, "turns @10000");
        fails(LAW, "turns @4294967297");
        fails(LAW, "turns @18446744073709551617");
        fails(LAW, "turns @" + Texts.repeat("9", 394));
        reads(LAW, "turns 00001000");
        fails(LAW, "turns @00001001");
        reads(ORDERS, "show 1000 at 1000");
        fails(ORDERS, "show 1 at @1001");
        fails(LAW, "turns @-1");
        fails(LAW, "turns @+1");
    }

    private static void parts() {
        Check.about("II. 50 PARTS that are NUMBERS and words (FAULT at the 51st)");
        reads(LAW, "turns 1" + Texts.repeat("+1", 49));
        fails(LAW, "turns 1" + Texts.repeat("+1", 49) + "+@1");
        reads(LAW, "turns men" + Texts.repeat("+men", 49));
        fails(LAW, "turns men" + Texts.repeat("+men", 49) + "+@men");
        fails(LAW, "turns men" + Texts.repeat("+men", 49) + "+@x");
        Check.about("II. 50 PARTS: brackets are none of them");
        reads(LAW, "turns [1]" + Texts.repeat("+[1]", 49));
        fails(LAW, "turns [1]" + Texts.repeat("+[1]", 49) + "+[@1]");
        Check.about("II. 50 PARTS: of all CLAUSES, of SUMS and of TESTS");
        reads(LAW, "turns 1" + Texts.repeat("+1", 24) + ";pays 1" + Texts.repeat("+1", 22) + " if 1=1");
        fails(LAW, "turns 1" + Texts.repeat("+1", 24) + ";pays 1" + Texts.repeat("+1", 22) + " if 1=1+@1");
        fails(LAW, "turns 1" + Texts.repeat("+1", 24) + ";pays 1" + Texts.repeat("+1", 24) + " if @1=1");
        Check.about("II. F, G, TIMES aside, NUMBERS and words count as PARTS");
        reads(ORDERS, "show 1 at 1 times 20 if men 5" + Texts.repeat("+men 5", 46) + "=1");
        fails(ORDERS, "show 1 at 1 times 20 if men 5" + Texts.repeat("+men 5", 46) + "=1+@men 5");
        reads(ORDERS, "show 1 at 1 if fame 3" + Texts.repeat("+fame 3", 46) + "=1");
        fails(ORDERS, "show 1 at 1 if fame 3" + Texts.repeat("+fame 3", 46) + "=1+@day");
        fails(ORDERS, "show 1 at 1 if men 5" + Texts.repeat("+men 5", 45) + "=1+men @6");
    }

    private static void brackets() {
        Check.about("II. 8 brackets of both kinds within one another (FAULT at the 9th)");
        String eight = Texts.repeat("[", 8);
        String closed = Texts.repeat("]", 8);
        reads(LAW, "turns " + eight + "1" + closed);
        fails(LAW, "turns " + eight + "@[1]" + closed);
        reads(LAW, "bars if " + Texts.repeat("(", 8) + "1=1" + Texts.repeat(")", 8));
        fails(LAW, "bars if " + Texts.repeat("(", 8) + "@(1=1)" + Texts.repeat(")", 8));
        reads(LAW, "bars if " + Texts.repeat("(", 7) + "[1]=1" + Texts.repeat(")", 7));
        fails(LAW, "bars if " + Texts.repeat("(", 7) + "[@[1]]=1" + Texts.repeat(")", 7));
        fails(LAW, "bars if " + Texts.repeat("(", 8) + "@[1]=1" + Texts.repeat(")", 8));
        reads(ORDERS, "show " + eight + "1" + closed + " at " + eight + "1" + closed);
        fails(ORDERS, "show 1 at " + eight + "@[1]" + closed);
        Check.about("II. 8 brackets within one another: those beside are not counted");
        reads(LAW, "turns " + eight + "1" + closed + "+" + eight + "1" + closed);
        reads(LAW, "turns [1]" + Texts.repeat("+[1]", 20));
        reads(LAW, "bars if (1=1)" + Texts.repeat("or(1=1)", 20));
        Check.about("II. brackets end as they began");
        fails(LAW, "turns [1@)");
        fails(LAW, "bars if (1=1@]");
        fails(LAW, "turns @(1)");
        fails(LAW, "bars if [1@=1]");
        fails(LAW, "bars if (1@)");
        fails(LAW, "turns [@]");
        fails(LAW, "bars if (@)");
        fails(LAW, "turns 1@]");
        fails(LAW, "bars if 1=1@)");
        Check.about("II. \"not\" PLAIN, as often as the TAPE has room");
        reads(LAW, "bars if " + Texts.repeat("not ", 97) + "1=1");
        fails(LAW, "bars if " + Texts.repeat("not ", 98) + "@");
    }

    private static void faultAtTheEnd() {
        Check.about("II. FAULT (the end's: the TEXT's length)");
        fails(LAW, "@");
        fails(LAW, "   @");
        fails(ORDERS, "@");
        fails(ORDERS, "   @");
        String[] laws = {"turns", "pays 1+", "fame 1*", "turns 1%", "turns [1", "turns [", "bars if", "bars if 1",
            "bars if 1=", "bars if not", "bars if (", "bars if (1=1", "bars if 1=1 or", "bars if 1=1 and", "bars;"};
        for (String law : laws) {
            fails(LAW, law + "@");
            fails(LAW, law + "   @");
        }
        String[] orders = {"show", "show 1", "show 1 at", "hide 1", "march 1 to", "man 1", "man men", "man 1 by shown",
            "man 1 by fame", "show 1 at 1 times", "show 1 at 1 if", "show 1 at 1 times 1 if", "show 1 at 1;"};
        for (String order : orders) {
            fails(ORDERS, order + "@");
            fails(ORDERS, order + "   @");
        }
    }

    private static void faultAtTheFirst() {
        Check.about("II. FAULT: the first TOKEN that can't go on there");
        fails(LAW, "@turn 1; show");
        fails(LAW, "turns @; bars if");
        fails(LAW, "bars @1");
        fails(LAW, "bars if 1=1 @=1");
        fails(LAW, "bars if 1=1 @if 1=1");
        fails(LAW, "turns 1 @or 1");
        fails(LAW, "turns 1 @times 2");
        fails(LAW, "bars if 1=1 and @and 1=1");
        fails(LAW, "bars if 1 @not = 1");
        fails(LAW, "@show 1 at 1");
        fails(LAW, "turns @pays");
        fails(LAW, "turns @fame");
        fails(LAW, "turns @done");
        fails(LAW, "turns @latest");
        fails(LAW, "turns @shown 1");
        fails(LAW, "turns men @1");
        fails(ORDERS, "@bars");
        fails(ORDERS, "@fame 1");
        fails(ORDERS, "show @mood at 1");
        fails(ORDERS, "show @fort at 1");
        fails(ORDERS, "show day @1 at 1");
    }

    /** What a sum is worth from -50 to 49, or BROKEN: then a sign pays its price, whatever that is. */
    private static int worth(String sum) {
        OpenGates x = Lands.under("pays 50+[" + sum + "]", 5, 2);
        int paid = x.asks(0, 3, 0);
        x.sign(3, 2, 2);
        return paid == x.asks(0, 3, 0) ? paid - 50 : BROKEN;
    }

    private static final String MOST = "1000*1000*1000";

    private static void beyond() {
        Check.about("II. Beyond 1,000,000,000 either way a SUM is BROKEN");
        Check.same("just as much", worth(MOST + "%7"), 6);
        Check.same("just as much below 0", worth("[0-" + MOST + "]%7"), -6);
        Check.same("one more", worth("[" + MOST + "+1]%7"), BROKEN);
        Check.same("one more below 0", worth("[0-" + MOST + "-1]%7"), BROKEN);
        Check.same("more by times", worth(MOST + "*2%7"), BROKEN);
        Check.same("more by times below 0", worth(MOST + "*[0-2]%7"), BROKEN);
        Check.same("far more by times", worth("[" + MOST + "]*[" + MOST + "]%7"), BROKEN);
        Check.same("more by less", worth("[" + MOST + "-[0-1]]%7"), BROKEN);
        Check.same("times 0 behind it", worth("0*[" + MOST + "+1]"), BROKEN);
        Check.same("less again behind it", worth(MOST + "+1-" + MOST), BROKEN);
        Check.same("less ahead of it", worth(MOST + "-1+1-" + MOST), 0);
        Check.same("a wrap-around of 32 bits", worth("1000*1000*1000*1000/1000/1000/1000"), BROKEN);
        Check.same("65536 times 65536", worth("[256*256]*[256*256]"), BROKEN);
        Check.about("II. Beyond 1,000,000,000 either way a TEST is BROKEN");
        Check.same("to its left", isSo("not " + MOST + "+1=0"), 0);
        Check.same("to its right", isSo("not 0=" + MOST + "+1"), 0);
        Check.same("just as much", isSo("not " + MOST + "=0"), 1);
    }

    private static void divided() {
        Check.about("II. divided by 0 a SUM is BROKEN");
        Check.same("/ 0", worth("1/0"), BROKEN);
        Check.same("% 0", worth("1%0"), BROKEN);
        Check.same("0 / 0", worth("0/0"), BROKEN);
        Check.same("by a sum of 0", worth("1/[men-5]"), BROKEN);
        Check.same("times 0", worth("0*[1/0]"), BROKEN);
        Check.about("II. / cut towards 0, % what is left then");
        Check.same("7 / 2", worth("7/2"), 3);
        Check.same("-7 / 2", worth("[0-7]/2"), -3);
        Check.same("7 / -2", worth("7/[0-2]"), -3);
        Check.same("-7 / -2", worth("[0-7]/[0-2]"), 3);
        Check.same("7 % 2", worth("7%2"), 1);
        Check.same("-7 % 2", worth("[0-7]%2"), -1);
        Check.same("7 % -2", worth("7%[0-2]"), 1);
        Check.same("-7 % -2", worth("[0-7]%[0-2]"), -1);
        Check.same("1 / 2", worth("1/2"), 0);
        Check.same("-1 / 2", worth("[0-1]/2"), 0);
        Check.same("-1,000,000,000 / -1", worth("[[0-" + MOST + "]/[0-1]]%7"), 6);
        Check.same("-1,000,000,000 % -1", worth("[0-" + MOST + "]%[0-1]"), 0);
    }

    private static int isSo(String test) {
        return Lands.under("bars if " + test, 5, 2).asks(0, 3, 1);
    }

    private static void shortcuts() {
        Check.about("II. \"or\" asks what stands behind only if it can still matter");
        Check.same("it can't", isSo("1=1 or 1/0=1"), 1);
        Check.same("it can", isSo("1=2 or 1/0=1"), 0);
        Check.same("it can, turned", isSo("not (1=2 or 1/0=1)"), 0);
        Check.same("behind what is broken", isSo("1/0=1 or 1=1"), 0);
        Check.same("none of three", isSo("1=1 or 1/0=1 or 1/0=1"), 1);
        Check.same("by the second", isSo("1=2 or 1=1 or 1/0=1"), 1);
        Check.about("II. \"and\" asks what stands behind only if it can still matter");
        Check.same("it can't, turned", isSo("not (1=2 and 1/0=1)"), 1);
        Check.same("it can, turned", isSo("not (1=1 and 1/0=1)"), 0);
        Check.same("it can't", isSo("1=2 and 1/0=1"), 0);
        Check.same("it can't, but what is behind", isSo("1=2 and 1/0=1 or 2=2"), 1);
        Check.same("neither can", isSo("1=2 and 1/0=1 and 1/0=1 or 2=2"), 1);
        Check.same("by the second", isSo("not (1=1 and 1=2 and 1/0=1)"), 1);
        Check.same("behind what is broken, turned", isSo("not (1/0=1 and 1=2)"), 0);
    }

    private static void precedence() {
        Check.about("II. TEST: BOTH {\"or\" BOTH}; BOTH: PLAIN {\"and\" PLAIN}");
        Check.same("and binds more", isSo("1=1 or 1=2 and 1=2"), 1);
        Check.same("brackets", isSo("(1=1 or 1=2) and 1=2"), 0);
        Check.same("not binds most", isSo("not 1=1 or 1=1"), 1);
        Check.same("not of brackets", isSo("not (1=1 or 1=1)"), 0);
        Check.same("not not", isSo("not not 1=1"), 1);
        Check.about("II. SUM ( < | > | = ) SUM");
        Check.same("less", isSo("1<2"), 1);
        Check.same("not less: alike", isSo("2<2"), 0);
        Check.same("more", isSo("2>1"), 1);
        Check.same("not more: alike", isSo("2>2"), 0);
        Check.same("alike", isSo("1+2=4-1"), 1);
        Check.about("II. SUM: TERM {(+ | -) TERM}; TERM: PART {(* | / | %) PART}");
        Check.same("times binds more", worth("2+3*4"), 14);
        Check.same("brackets", worth("[2+3]*4"), 20);
        Check.same("from the left: -", worth("9-3-2"), 4);
        Check.same("from the left: /", worth("24/4/2"), 3);
        Check.same("from the left: % *", worth("17%5*3"), 6);
    }

    private static void lawWordsOfSigns() {
        Check.about("II. \"pays\", \"bars\" are asked of a FORT and a SIGN (army, belief, end -1)");
        OpenGates x = Lands.under("pays 50+army*1+belief*2+end*4;bars if army=0-1 and belief=0-1 and end=0-1", 5, 2);
        Check.same("pays", x.asks(0, 0, 0), 43);
        Check.same("bars", x.asks(0, 0, 1), 1);
        x = Lands.under("pays sign*10+fort if sign<5;pays known if sign=5;bars if men=7 and general=3 and sign=5",
            5, 2, 7, 3);
        x.fame(3, 98);
        Check.same("sign 0", x.asks(1, 0, 0), 1);
        Check.same("sign 4", x.asks(0, 4, 0), 40);
        Check.same("known", x.asks(1, 5, 0), 98);
        Check.same("men, general, sign", x.asks(1, 5, 1), 1);
        Check.same("another sign", x.asks(1, 4, 1), 0);
        Check.same("another fort", x.asks(0, 5, 1), 0);
    }

    private static void lawWordsOfArmies() {
        Check.about("II. \"turns\" of a FORT and an army (sign -1; end of \"turns\" -1)");
        OpenGates x = Lands.under("turns 50+sign*2+end*4", 5, 2);
        Check.same("turns", x.asks(0, 9, 2), 44);
        x = Lands.under("turns army", 5, 2);
        Check.same("1 man", x.asks(0, 1, 2), 1);
        Check.same("99 men", x.asks(0, 99, 2), 99);
        Check.about("II. belief: BELIEF in hundredths, cut");
        x = Lands.under("turns belief", 5, 2);
        int[] prior = {0, 9, 10, 499, 999, 1000};
        int[] due = {0, 0, 1, 49, 99, 100};
        for (int i = 0; i < prior.length; i++) {
            x.terms(1, prior[i]);
            Check.same("prior " + prior[i], x.asks(0, 9, 2), due[i]);
        }
        Check.about("II. \"fame\" of a FORT and an army (sign -1; belief)");
        x = Lands.under("turns 100;fame belief/10+army+sign", 9, 2);
        x.terms(1, 599);
        x.march(3, 0);
        Check.same("5 + 3 - 1", x.count(19), 57);
        Check.about("II. \"day\", \"mood\"");
        x = Lands.under("turns day;turns mood if mood>0", 5, 2);
        Check.same("day 0", x.asks(0, 9, 2), 0);
        x.terms(0, 77);
        Check.same("day 77", x.asks(0, 9, 2), 77);
        x.terms(2, 9);
        Check.same("mood 9", x.asks(0, 9, 2), 9);
    }

    private static void holding() {
        Check.about("II. A CLAUSE HOLDS, if its \"if\" (if it has one) is so, and neither that nor its SUM is BROKEN");
        OpenGates x = Lands.under("turns 10;turns 20 if 1=2", 5, 2);
        Check.same("not so", x.asks(0, 9, 2), 10);
        x = Lands.under("turns 10;turns 20 if 1/0=1", 5, 2);
        Check.same("its test is broken", x.asks(0, 9, 2), 10);
        x = Lands.under("turns 10;turns 20/0 if 1=1", 5, 2);
        Check.same("its sum is broken", x.asks(0, 9, 2), 10);
        x = Lands.under("turns 10;turns 20 if 1=1", 5, 2);
        Check.same("it holds", x.asks(0, 9, 2), 20);
        Check.about("II. the last that HOLDS");
        x = Lands.under("turns 10;turns 20;turns 30;pays 40", 5, 2);
        Check.same("of its kind", x.asks(0, 9, 2), 30);
        x = Lands.under("turns 10" + Texts.repeat(";turns 20", 10) + ";turns 99", 5, 2);
        Check.same("the twelfth", x.asks(0, 9, 2), 99);
    }

    private static int turnsAt(String law) {
        return Lands.under(law, 5, 2).asks(0, 9, 2);
    }

    private static void turning() {
        Check.about("II. as the last \"turns\" that HOLDS tells, 0 .. 100 (else the nearest), 50 without");
        Check.same("0", turnsAt("turns 0"), 0);
        Check.same("below", turnsAt("turns 0-1"), 0);
        Check.same("100", turnsAt("turns 100"), 100);
        Check.same("above", turnsAt("turns 101"), 100);
        Check.same("far above", turnsAt("turns " + MOST), 100);
        Check.same("far below", turnsAt("turns 0-" + MOST), 0);
        Check.same("without", turnsAt("pays 7"), 50);
        Check.same("no law", Lands.of(1, 0).asks(0, 9, 2), 50);
        Check.about("II. An army TURNS, if BELIEF is as many hundredths or more");
        OpenGates x = Lands.under("turns 100", 5, 2);
        x.terms(1, 1000);
        Check.same("100 of 100", x.asks(0, 9, 3), 1);
        x.terms(1, 999);
        Check.same("99.9 of 100", x.asks(0, 9, 3), 0);
        x = Lands.under("turns 0", 5, 2);
        x.terms(1, 0);
        Check.same("0 of 0", x.asks(0, 9, 3), 1);
        x = Lands.under("turns 1000", 5, 2);
        x.terms(1, 1000);
        Check.same("100 of 1000: the nearest", x.asks(0, 9, 3), 1);
        Check.same("and so it does", x.march(99, 0), 1);
        x = Lands.under("turns belief if army<50;turns belief+1 if army>49", 5, 2);
        Check.same("as many as BELIEF has", x.asks(0, 49, 3), 1);
        Check.same("one more", x.asks(0, 50, 3), 0);
        x = Lands.under("turns 1", 5, 2);
        x.terms(1, 9);
        Check.same("0.9 of 1", x.asks(0, 9, 3), 0);
        x.terms(1, 10);
        Check.same("1 of 1", x.asks(0, 9, 3), 1);
    }

    private static int paysBy(String law) {
        OpenGates x = Lands.under(law, 5, 2);
        x.sign(1, 2, 33);
        int asked = x.asks(0, 1, 0);
        Check.same("as show() answers", x.show(0, 1), asked);
        return asked;
    }

    private static void paying() {
        Check.about("II. a SIGN PAYS 0 .. 99 (else the nearest), PRICE without");
        Check.same("0", paysBy("pays 0"), 0);
        Check.same("below", paysBy("pays 0-1"), 0);
        Check.same("99", paysBy("pays 99"), 99);
        Check.same("above", paysBy("pays 100"), 99);
        Check.same("far above", paysBy("pays " + MOST), 99);
        Check.same("far below", paysBy("pays 0-" + MOST), 0);
        Check.same("without", paysBy("turns 7"), 33);
        Check.same("none holds", paysBy("pays 7 if sign=2;pays 8/0"), 33);
    }

    private static void barring() {
        Check.about("II. a SIGN is BARRED from a FORT, if \"bars\" HOLDS");
        Check.same("without an if", Lands.under("bars", 5, 2).asks(0, 0, 1), 1);
        Check.same("without the word", Lands.under("turns 1", 5, 2).asks(0, 0, 1), 0);
        Check.same("no law", Lands.of(5, 2).asks(0, 0, 1), 0);
        Check.same("not so", isSo("1=2"), 0);
        Check.same("broken", isSo("1/0=1"), 0);
        Check.same("any of them", isSo("sign=3;bars if sign=4"), 1);
        Check.same("the other one", isSo("sign=4;bars if sign=3"), 1);
    }

    private static void orderHeads() {
        Check.about("II. \"show\" SUM \"at\" SUM, \"hide\" SUM \"at\" SUM, \"march\" SUM \"to\" SUM, \"man\" SUM \"by\" SUM");
        fails(ORDERS, "show 1 @to 1");
        fails(ORDERS, "show 1 @by 1");
        fails(ORDERS, "hide 1 @to 1");
        fails(ORDERS, "march 1 @at 1");
        fails(ORDERS, "march 1 @by 1");
        fails(ORDERS, "man 1 @at 1");
        fails(ORDERS, "man 1 @to 1");
        fails(ORDERS, "@men 1 by 1");
        Check.about("II. (a SIGN, a FORT; an army's men, a FORT; a FORT, men.)");
        OpenGates x = Lands.of(5, 0, 5, 0, 5, 0);
        Check.same("show", Texts.orders(x, "show 5 at 1"), 1);
        Check.same("sign 5 at fort 1", x.of(1, 2), 32);
        Check.same("hide", Texts.orders(x, "hide 5 at 1"), 1);
        Check.same("no more", x.of(1, 2), 0);
        Check.same("man", Texts.orders(x, "man 1 by 2"), 1);
        Check.same("fort 1 by 2", x.of(1, 0), 7);
        x.terms(1, 0);
        Check.same("march", Texts.orders(x, "march 6 to 2"), 1);
        Check.same("6 men to fort 2", x.of(2, 3), 1);
    }

    private static void times() {
        Check.about("II. TIMES: a NUMBER 1 .. 20");
        OpenGates x = Lands.of(0, 0);
        Check.same("1", Texts.orders(x, "man 0 by 1 times 1"), 1);
        Check.same("20", Texts.orders(x, "man 0 by 1 times 20"), 20);
        Check.same("men", x.of(0, 0), 21);
        fails(ORDERS, "man 0 by 1 times @0");
        fails(ORDERS, "man 0 by 1 times @21");
        fails(ORDERS, "man 0 by 1 times @1001");
        fails(ORDERS, "man 0 by 1 times @day");
        fails(ORDERS, "man 0 by 1 times @[1]");
        fails(ORDERS, "man 0 by 1 times 1@+1");
        fails(ORDERS, "man 0 by 1 times 1 @times 1");
        fails(ORDERS, "man 0 by 1 if 1=1 @times 1");
        Check.about("II. each as often as TIMES tell (once without)");
        Check.same("once", Texts.orders(x, "man 0 by 1"), 1);
        Check.same("twelve by twenty", Texts.orders(x, "man 0 by 0 times 20"
            + Texts.repeat(";man 0 by 0 times 20", 11)), 240);
        Check.same("sixteen are kept", x.count(6), 16);
        Check.about("II. each time its \"if\" is asked");
        Check.same("as long as it is so", Texts.orders(x, "man 0 by 10 times 20 if men 0 < 50"), 3);
        Check.same("men", x.of(0, 0), 52);
        Check.same("not so, then so, then not", Texts.orders(x,
            "man 0 by 1;man 0 by 1 times 20 if done > 1 or done > 0 and done < 4"), 21);
        Check.same("from the left each time", Texts.orders(x, "man 0 by 0-done times 5"), 5);
        Check.same("men", x.of(0, 0), 52 + 21 - 10);
    }

    private static void fortsAndGenerals() {
        Check.about("II. F: a NUMBER 0 .. 5, G: 0 .. 3");
        reads(ORDERS, "man men 0 by men 5");
        fails(ORDERS, "man men @6 by 1");
        fails(ORDERS, "man men @1001 by 1");
        fails(ORDERS, "man men @by 1");
        fails(ORDERS, "man men @[0] by 1");
        fails(ORDERS, "man men @men 0 by 1");
        reads(ORDERS, "man shown 0 by shown 5");
        fails(ORDERS, "man shown @6 by 1");
        reads(ORDERS, "man fame 0 by fame 3");
        fails(ORDERS, "man fame @4 by 1");
        fails(ORDERS, "man fame @day by 1");
        reads(ORDERS, "man men 005 by fame 003");
        OpenGates x = Lands.of(1, 0, 2, 0, 3, 0, 4, 0, 5, 0, 6, 3);
        x.show(5, 5);
        x.fame(3, 7);
        Check.same("men 5", Texts.orders(x, "man 0 by men 5"), 1);
        Check.same("men", x.of(0, 0), 7);
        Check.same("shown 5", Texts.orders(x, "man 0 by shown 5"), 1);
        Check.same("men", x.of(0, 0), 39);
        Check.same("fame 3", Texts.orders(x, "man 0 by fame 3"), 1);
        Check.same("men", x.of(0, 0), 46);
        x.fame(0, 11);
        Check.same("fame 0", Texts.orders(x, "man 0 by fame 0"), 1);
        Check.same("men", x.of(0, 0), 57);
        Check.about("II. \"day\"");
        x.terms(0, 999);
        Check.same("the last", Texts.orders(x, "man 0 by day-990"), 1);
        Check.same("men", x.of(0, 0), 66);
        x.terms(0, 0);
        Check.same("each march tells the next", Texts.orders(x, "man 0 by 1 if day=0;march 1 to 1;man 0 by day*5"), 3);
        Check.same("men", x.of(0, 0), 72);
    }

    private static void doneAndLatest() {
        Check.about("II. done: how many were run in this TEXT");
        OpenGates x = Lands.unbelieved(0, 0, 50, 0, 50, 0);
        Check.same("none yet", Texts.orders(x, "man 0 by 1 if done=0"), 1);
        Check.same("not of the text ahead of it", Texts.orders(x, "man 0 by 1 if done=0"), 1);
        Check.same("not those that were not run", Texts.orders(x,
            "man 0 by 1 if 1=2;man 0 by 1 if done=0;man 0 by 1 if done=1"), 2);
        Check.about("II. latest: what the latest march in it told (-1: none)");
        Check.same("none yet", Texts.orders(x, "man 0 by 1 if latest=0-1;march 9 to 1 if latest=0-1"), 2);
        Check.same("none in this one", Texts.orders(x, "man 0 by 1 if latest=0-1"), 1);
        Check.same("0, then 2", Texts.orders(x,
            "march 9 to 1;man 0 by 1 if latest=0;march 99 to 1;man 0 by 1 if latest=2;show 1 at 0;man 0 by 1 if latest=2"), 6);
        x.terms(1, 500);
        Check.same("1", Texts.orders(x, "march 9 to 2;man 0 by 1 if latest=1"), 2);
    }

    private static void withoutSuchAFort() {
        Check.about("II. men, shown (as bits): -1 without such a FORT");
        OpenGates x = Lands.of(9, 0);
        Check.same("men 1", Texts.orders(x, "man 0 by men 1"), 1);
        Check.same("less by one", x.of(0, 0), 8);
        Check.same("shown 1", Texts.orders(x, "man 0 by shown 1"), 1);
        Check.same("less by one", x.of(0, 0), 7);
        Check.same("men 5, shown 5", Texts.orders(x, "man 0 by 1 if men 5=0-1 and shown 5=0-1"), 1);
        x.image(0);
        x.fort(4, 0);
        x.show(1, 0);
        x.back(0);
        Check.same("no more behind back()", Texts.orders(x, "man 0 by 1 if men 1=0-1 and shown 1=0-1"), 1);
        x.terms(1, 0);
        x.show(0, 2);
        x.march(99, 0);
        Check.same("a fort that is taken is there", Texts.orders(x, "man 0 by 1 if not (men 0=9 and shown 0=4)"), 0);
    }

    private static void notRun() {
        Check.about("II. (not run, if it is not so or BROKEN)");
        OpenGates x = Lands.of(9, 0);
        Check.same("not so", Texts.orders(x, "man 0 by 1 if 1=2"), 0);
        Check.same("broken", Texts.orders(x, "man 0 by 1 if 1/0=1"), 0);
        Check.same("not refused", x.status(), 0);
        Check.same("stopped", x.stopped(), NONE);
        Check.same("what could not be is not asked", Texts.orders(x, "man 9 by 1/0 if 1=2"), 0);
        Check.same("what could not be is not asked", Texts.orders(x, "march 100 to 7 times 20 if 1%0=0"), 0);
        Check.same("men", x.of(0, 0), 9);
        Check.same("nothing to undo", x.count(6), 0);
    }

    private static void ends(String order, int clause) {
        OpenGates x = Lands.under("bars if sign=5;fame 9", 9, 0, 9, 1);
        x.show(1, 4);
        Check.same(order, Texts.orders(x, "man 0 by 7;show 1 at 0;hide 4 at 1;march 9 to 0;" + order), -3);
        Check.same("stopped: " + order, x.stopped(), clause);
        Check.same("status: " + order, x.status(), -3);
        Check.same("fault: " + order, x.fault(), NONE);
        Check.same("men: " + order, x.of(0, 0), 9);
        Check.same("shown: " + order, x.of(0, 2), 0);
        Check.same("shown: " + order, x.of(1, 2), 16);
        Check.same("fame: " + order, x.count(17), 50);
        Check.same("day: " + order, x.count(14), 0);
        Check.same("to be undone: " + order, x.count(6), 1);
        Check.same("undo: " + order, x.undo(), 0);
        Check.same("shown: " + order, x.of(1, 2), 0);
    }

    private static void cantBe() {
        Check.about("II. One that can't be ends it: all is as it was ahead of it");
        ends("man 0 by 1/0", 4);
        ends("man 1/0 by 1", 4);
        ends("man 0 by " + MOST + "+1", 4);
        ends("man 0 by 100", 4);
        ends("man 0 by 0-100", 4);
        ends("man 0 by 99", 4);
        ends("man 2 by 1", 4);
        ends("man 0-1 by 1", 4);
        ends("show 1 at 0", 4);
        ends("show 5 at 0", 4);
        ends("show 6 at 0", 4);
        ends("show 0-1 at 0", 4);
        ends("show 1 at 2", 4);
        ends("hide 4 at 1", 4);
        ends("hide 6 at 1", 4);
        ends("march 0 to 0", 4);
        ends("march 100 to 0", 4);
        ends("march 1 to 2", 4);
        ends("man 0 by 1;man 0 by 1 times 20;show 0 at 1000;man 0 by 1", 6);
        ends("man 0 by 9 times 20", 4);
        ends("man 0 by 0;man 0 by 0;man 0 by 0;man 0 by 0;man 0 by 0;man 0 by 0;man 0 by 0;man 9 by 0", 11);
        Check.about("II. all is as it was ahead of it: what can be undone");
        OpenGates y = Lands.of(9, 0, 9, 1);
        for (int i = 0; i < 16; i++) {
            y.man(i % 2, i + 1);
        }
        Check.same("more than are kept", Texts.orders(y, "man 0 by 0-1 times 20;show 9 at 9"), -3);
        Check.same("sixteen", y.count(6), 16);
        for (int i = 15; i >= 0; i--) {
            int before = y.of(i % 2, 0);
            Check.same("undo", y.undo(), 2);
            Check.same("men", y.of(i % 2, 0), before - i - 1);
        }
        Check.same("men", y.of(0, 0), 9);
        Check.same("men", y.of(1, 0), 9);
        Check.about("II. all is as it was ahead of it");
        OpenGates x = Lands.unbelieved(9, 0);
        Check.same("taken by it, then another march", Texts.orders(x, "march 10 to 0 times 2"), -3);
        Check.same("not taken", x.of(0, 3), 0);
        x.terms(0, 998);
        Check.same("the last day", Texts.orders(x, "march 1 to 0 times 2"), -3);
        Check.same("day", x.count(14), 998);
    }
}
