/** The bounds of promises 5 and 6: rule, force, the text of a RULE, and what its signs and words tell. */
public final class BoundRuleTest {
    private static final Sentences S = new Sentences();
    /** Two to the power of 60. */
    private static final String ROUND = "32768*32768*32768*32768";

    private static void text(String text, int want) {
        S.due("rule() of '" + text + "'", Told.rule(new FoldDeeds(), text), want);
    }

    private static void fault(String text, int place, int kind) {
        text(text, Told.fault(place, kind));
    }

    /** What PERSON 0, with 30 coins, pays for CELL 1, nobody's, by a rule of that text. */
    private static int price(String text) {
        FoldDeeds x = Told.clothOf("cloth 2;person 30;worth 1 7");
        Told.force(x, text);
        return x.cost(0, 0, 0, 0);
    }

    private static void sum(String sum, int want) {
        S.due("cost by 'price " + sum + "'", price("price " + sum), want);
    }

    private static void holds(String test, boolean want) {
        S.due("cost by 'price 5 if " + test + "'", price("price 5 if " + test), want ? 5 : 0);
    }

    private static void rule() {
        S.test(5, "The TAPE, which is empty then, is a RULE: its number");
        FoldDeeds x = new FoldDeeds();
        for (int i = 0; i < 6; i++) {
            S.due("rule()", Told.rule(x, "price " + i), i);
            S.due("bytes of the TAPE", x.count(11), 0);
            S.due("RULES", x.count(3), i + 1);
            S.due("the RULE IN FORCE", x.count(4), -1);
        }
        Told.cloth(x, "cloth 2;person 9");
        for (int i = 0; i < 6; i++) {
            x.force(i);
            S.due("cost by RULE " + i, x.cost(0, 0, 0, 0), i);
        }

        S.test(5, "-2 - its FAULT");
        String[] texts = {"price", "", "price 1 if", "price 123456", "cloth 2"};
        int[] faults = {Told.fault(5, 0), Told.fault(0, 0), Told.fault(10, 0), Told.fault(6, 1), Told.fault(0, 0)};
        for (int i = 0; i < texts.length; i++) {
            x = Sentences.busy();
            FoldDeeds twin = Sentences.busy();
            S.due("rule() of '" + texts[i] + "'", Told.rule(x, texts[i]), faults[i]);
            twin.end(0);
            S.alike("rule() of '" + texts[i] + "'", x, twin);
        }
        x = new FoldDeeds();
        Told.rule(x, "price");
        S.due("the number behind a FAULT", Told.rule(x, "price 1"), 0);

        S.test(5, "NONE, and nothing happens: there are 6.");
        S.refused("a seventh", o -> sixRules(o, "price 7"), FoldDeeds::rule, -1);
        S.refused("a seventh with a FAULT", o -> sixRules(o, "price"), FoldDeeds::rule, -1);
        S.refused("a seventh, the TAPE empty", o -> sixRules(o, ""), FoldDeeds::rule, -1);
        S.refused("a seventh that is a CLOTH", o -> sixRules(o, "cloth 3"), FoldDeeds::rule, -1);
        x = new FoldDeeds();
        sixRules(x, "price 7");
        x.rule();
        S.due("bytes of the TAPE", x.count(11), 7);
        S.due("RULES", x.count(3), 6);
    }

    private static void sixRules(FoldDeeds x, String tape) {
        Sentences.busy(x);
        for (int i = 2; i < 6; i++) {
            Told.rule(x, "price " + i);
        }
        Told.put(x, tape);
    }

    private static void force() {
        S.test(6, "A RULE is IN FORCE (NONE: none): which was");
        FoldDeeds x = Told.clothOf("cloth 2;person 9;worth 1 3");
        S.due("force(NONE) at first", x.force(-1), -1);
        Told.rule(x, "price 4");
        Told.rule(x, "price 5");
        S.due("cost ahead of it", x.cost(0, 0, 0, 0), 3);
        S.due("force(0)", x.force(0), -1);
        S.due("cost by it", x.cost(0, 0, 0, 0), 4);
        S.due("force(1)", x.force(1), 0);
        S.due("cost by it", x.cost(0, 0, 0, 0), 5);
        S.due("force(1) again", x.force(1), 1);
        S.due("force(NONE)", x.force(-1), 1);
        S.due("cost by none", x.cost(0, 0, 0, 0), 3);
        S.due("count(4)", x.count(4), -1);

        S.test(6, "-2, and nothing happens, if there is none such.");
        S.refused("force(2) of two", o -> o.force(2), -2);
        S.refused("force(5) of two", o -> o.force(5), -2);
        S.refused("force(6)", o -> o.force(6), -2);
        S.refused("force(-2)", o -> o.force(-2), -2);
        S.refused("force(MIN)", o -> o.force(Integer.MIN_VALUE), -2);
        S.refused("force(MAX)", o -> o.force(Integer.MAX_VALUE), -2);
        S.refused("force(0) without a RULE", o -> Told.cloth(o, "cloth 2;person 9"), o -> o.force(0), -2);
        S.refused("force(6) of six", o -> sixRules(o, ""), o -> o.force(6), -2);
        x = new FoldDeeds();
        sixRules(x, "");
        S.due("force(5) of six", x.force(5), 0);
        S.due("count(4)", x.count(4), 5);
    }

    private static void clauses() {
        S.test(5, "RULES 0 to 5: texts likewise, 12 CLAUSES at most: price SUM [ if TEST ].");
        text("price" + " ".repeat(393) + "1", 0);
        text("price" + " ".repeat(394) + "1", 0);
        fault("price" + " ".repeat(395), 400, 0);
        text("price 1", 0);
        text("price 1" + ";price 1".repeat(10), 0);
        text("price 1" + ";price 1".repeat(11), 0);
        fault("price 1" + ";price 1".repeat(12), 7 + 8 * 11 + 1, 4);
        fault("price 1" + ";price 1".repeat(13), 7 + 8 * 11 + 1, 4);
        S.due("cost by the twelfth CLAUSE", price("price 1 if 1>2;".repeat(11) + "price 6"), 6);
        text("price 1 if 1=1;price 1", 0);
        fault("price 1 if 1=1 if 1=1", 15, 0);
        fault("price if 1=1", 6, 0);
        fault("if 1=1", 0, 0);
        fault("price 1;", 8, 0);
        fault(";price 1", 0, 0);
        fault("price 1;;price 1", 8, 0);
        fault("price 1 price 1", 8, 0);
        fault("price 1,price 1", 7, 0);

        S.test(5, "the SUM of its first CLAUSE without a TEST, or whose TEST holds (0 without)");
        S.due("the first without a TEST", price("price 3;price 4"), 3);
        S.due("the first whose TEST holds", price("price 3 if 1=2;price 4 if 1=1;price 5"), 4);
        S.due("one without a TEST behind those", price("price 3 if 1=2;price 4 if 2=1;price 5;price 6"), 5);
        S.due("without", price("price 3 if 1=2;price 4 if 2=1"), 0);
        FoldDeeds x = Told.clothOf("cloth 2;person 9");
        Told.rule(x, "price 1 if 1=2;price 2 if 1=2;price 7");
        Told.force(x, "price 3 if 1=2");
        S.due("without, behind a longer RULE", x.cost(0, 0, 0, 0), 0);

        S.test(5, "held to 0 to 999");
        sum("0 - 99999*99999*99999", 0);
        sum("0 - 1", 0);
        sum("0", 0);
        sum("1", 1);
        sum("998", 998);
        sum("999", 999);
        sum("1000", 999);
        sum("99999*99999*99999", 999);
        sum("65536*65536 + 5", 999);
        sum("0 - 65536*65536 + 5", 0);
    }

    private static void tests() {
        S.test(5, "TEST: PART { or PART }.");
        holds("1=1 or 1=2", true);
        holds("1=2 or 1=1", true);
        holds("1=2 or 2=1", false);
        holds("1=2 or 2=1 or 3=3", true);
        holds("1=1 or 1=2 and 1=2", true);
        holds("1=2 and 1=2 or 1=1", true);
        holds("1=2 and 1=1 or 2=1", false);
        fault("price 1 if 1=1 or", 17, 0);
        fault("price 1 if or 1=1", 11, 0);
        fault("price 1 if 1=1 or or 1=1", 18, 0);
        fault("price 1 if 1=1 and or 1=1", 19, 0);

        S.test(5, "PART: FACT { and FACT }.");
        holds("1=1 and 2=2", true);
        holds("1=1 and 1=2", false);
        holds("1=2 and 1=1", false);
        holds("1=1 and 2=2 and 3=3", true);
        holds("1=1 and 2=2 and 1=3", false);
        fault("price 1 if 1=1 and", 18, 0);
        fault("price 1 if and 1=1", 11, 0);
        fault("price 1 if 1=1 2=2", 15, 0);

        S.test(5, "FACT: not FACT | [ TEST ] (these brackets are signs) | SUM SIGN SUM, SIGN one of < <= = >= >.");
        String[] signs = {"<", "<=", "=", ">=", ">"};
        boolean[][] due = {{true, false, false}, {true, true, false}, {false, true, false}, {false, true, true},
            {false, false, true}};
        for (int i = 0; i < signs.length; i++) {
            for (int left = 6; left <= 8; left++) {
                holds(left + signs[i] + "7", due[i][left - 6]);
            }
        }
        for (String sign : new String[] {"6<7", "7<=7", "7=7", "7>=7", "8>7"}) {
            holds("not " + sign, false);
            holds("not not " + sign, true);
            holds(sign + " and " + sign, true);
            holds(sign + " and 1=1", true);
            holds(sign + " and 1=2", false);
            holds("1=2 or " + sign, true);
        }
        holds("0-99999*99999*99999*9000 < 99999*99999*99999*9000", true);
        holds("not 1=2", true);
        holds("not 1=1", false);
        holds("not not 1=1", true);
        holds("not 1=2 and 1=2", false);
        holds("not [1=2 and 1=2]", true);
        holds("not 1=1 or 1=1", true);
        holds("not [1=1 or 1=1]", false);
        holds("[1=1 or 1=1] and 1=2", false);
        holds("[[1=1]]", true);
        fault("price 1 if 1", 12, 0);
        fault("price 1 if 1 1", 13, 0);
        fault("price 1 if cell 1=1", 16, 0);
        fault("price 1 if 1 cell", 13, 0);
        fault("price 1 if 1=", 13, 0);
        fault("price 1 if =1", 11, 0);
        fault("price 1 if 1==1", 13, 0);
        fault("price 1 if 1=<1", 13, 0);
        fault("price 1 if 1=>1", 13, 0);
        fault("price 1 if 1<>1", 13, 0);
        fault("price 1 if 1< =1", 14, 0);
        fault("price 1 if 1> =1", 14, 0);
        fault("price 1 if 1<1<1", 14, 0);
        fault("price 1 if []", 12, 0);
        fault("price 1 if [1]=1", 13, 0);
        fault("price 1 if [1=1", 15, 0);
        fault("price 1 if 1=1]", 14, 0);
        fault("price 1 if [1=1;", 15, 0);
        fault("price 1 if (1=1)", 11, 0);
        fault("price 1 if not", 14, 0);
        fault("price 1 if 1 not =1", 13, 0);
        fault("price [1]", 6, 0);
        fault("price not 1", 6, 0);
    }

    private static void sums() {
        S.test(5, "SUM: TERM { (+ or -) TERM }.");
        sum("7", 7);
        sum("7+5", 12);
        sum("7-5", 2);
        sum("20-5-3", 12);
        sum("20-5+3", 18);
        sum("2+3*4", 14);
        sum("20-2*3-1", 13);
        fault("price 7+", 8, 0);
        fault("price +7", 6, 0);
        fault("price -7", 6, 0);
        fault("price 7--5", 8, 0);
        fault("price 7 5", 8, 0);

        S.test(5, "TERM: VALUE { (* or / or %) VALUE }.");
        sum("7*5", 35);
        sum("7/2*2", 6);
        sum("2*7/2", 7);
        sum("17%5*2", 4);
        sum("2*17%5", 4);
        sum("100/10/5", 2);
        fault("price 7*", 8, 0);
        fault("price *7", 6, 0);
        fault("price 7**5", 8, 0);
        fault("price 7/%5", 8, 0);

        S.test(5, "VALUE: NUMBER (1 to 5 digits, as far as digits go on) | WORD.");
        sum("0", 0);
        sum("00009", 9);
        sum("99999-99990", 9);
        sum("99998/11111", 8);
        fault("price 000009", 6, 1);
        fault("price 100000", 6, 1);
        fault("price 1+9999999999999999999999", 8, 1);
        fault("price 1 2345", 8, 0);
        fault("price 1x", 7, 0);
        fault("price -", 6, 0);

        S.test(5, "/ is towards 0, % its rest, both 0 by 0");
        sum("7/2", 3);
        sum("6/2", 3);
        sum("1/2", 0);
        sum("100+owner*7/2", 97);
        sum("100+7/owner/2", 97);
        sum("100+owner*1/2", 100);
        sum("owner*7/owner/2", 3);
        sum("7%2", 1);
        sum("6%2", 0);
        sum("100+owner*7%2", 99);
        sum("100+7%owner", 100);
        sum("owner*3%owner+100", 100);
        sum("9+7/0", 9);
        sum("9+7%0", 9);
        sum("9+owner/0", 9);
        sum("9+owner%0", 9);
        sum("9+0/0+0%0", 9);
        sum("9+7/day", 9);
        sum("9+7%day", 9);
        sum("9+7/0*5", 9);

        S.test(5, "all goes round in 64 bits");
        sum(ROUND + "*8-1", 999);
        sum(ROUND + "*8", 0);
        sum(ROUND + "*8+" + ROUND + "*8", 0);
        sum(ROUND + "*16+5", 5);
        sum(ROUND + "*7+" + ROUND + "-1", 999);
        sum("0-" + ROUND + "*8", 0);
        sum("0-" + ROUND + "*8-1", 999);
        holds(ROUND + "*8 < 0", true);
        holds(ROUND + "*8-1 > 0", true);
        holds(ROUND + "*8 < " + ROUND + "*8-1", true);
        holds(ROUND + "*16 = 0", true);
        holds(ROUND + "*8/owner = " + ROUND + "*8", true);
        holds(ROUND + "*8%owner = 0", true);
        holds("99999*99999*99999*99999 < 0", false);
    }

    /**
     * PLACE 0 has CELLS 2, 0 and 1 from below, PLACE 1 has CELL 3; 0 and 1 are PERSON 0's, who has 30
     * coins, 3 is PERSON 1's, who has 5, and worth 7; 2 is nobody's. DAY is 2.
     */
    private static int priceOf(int cell, String sum, int buyer, int way) {
        FoldDeeds x = Told.clothOf("cloth 4;person 30;person 5;owner 3 1;worth 3 7");
        Told.force(x, "price 0");
        x.fold(0, 0, 1, 0);
        x.fold(0, 0, 1, 0);
        Told.force(x, "price " + sum + " if cell=" + cell);
        return x.cost(buyer, 0, cell == 3 ? 0 : 1, way);
    }

    private static void word(int cell, String sum, int buyer, int want) {
        S.due("price of CELL " + cell + " for PERSON " + buyer + " by 'price " + sum + "'",
                priceOf(cell, sum, buyer, 0), want);
    }

    private static void words() {
        S.test(5, "WORDS (small letters, as far as these go on) of a CELL that a FOLD moves: cell, worth, buyer,");
        word(3, "cell", 0, 3);
        word(2, "cell", 0, 2);
        word(0, "cell+1", 1, 1);
        word(3, "worth", 0, 7);
        word(2, "worth", 0, 1);
        word(2, "buyer", 1, 1);
        word(2, "buyer+1", 0, 1);
        fault("price cells", 6, 0);
        fault("price cella", 6, 0);
        fault("price cellz", 6, 0);
        fault("price cell`", 10, 0);
        fault("price cell{", 10, 0);
        fault("price 1/", 8, 0);
        fault("price 1:", 7, 0);
        fault("price cel", 6, 0);
        fault("price Cell", 6, 0);
        fault("price cellworth", 6, 0);
        fault("price cell worth", 11, 0);
        fault("price cell1", 10, 0);
        fault("price coins", 6, 0);
        fault("price 1 ifcell=1", 8, 0);
        fault("price 1 if cell=1 andway=0", 18, 0);
        fault("pricecell", 0, 0);
        text("price1if1=1and1=1or1=1", 0);

        S.test(5, "owner (-1: nobody)");
        word(2, "owner+5", 0, 4);
        word(0, "owner+5", 1, 5);
        word(3, "owner+5", 0, 6);
        word(2, "9-owner*owner", 0, 8);

        S.test(5, "layer (how many lie below it on its PLACE)");
        word(2, "layer+1", 1, 1);
        word(0, "layer", 1, 1);
        word(1, "layer", 1, 2);
        word(3, "layer+1", 0, 1);

        S.test(5, "place, moved (CELLS the FOLD moves), width (PLACES now)");
        word(2, "place+1", 0, 1);
        word(1, "place+1", 1, 1);
        word(3, "place", 0, 1);
        word(3, "moved", 0, 1);
        word(2, "moved", 0, 3);
        word(2, "moved", 1, 3);
        word(3, "width", 0, 2);
        sum("width", 2);

        S.test(5, "way (0 over, 1 under)");
        S.due("over", priceOf(3, "way+1", 0, 0), 1);
        S.due("under", priceOf(3, "way+1", 0, 1), 2);

        S.test(5, "purse (the buyer's), day.");
        word(3, "purse", 0, 30);
        word(2, "purse", 1, 5);
        word(3, "day", 0, 2);
        sum("day+1", 1);
    }

    private static void bounds() {
        S.test(5, "Blanks (32) stand between as one likes.");
        text("   price   1   +   2   if   1   <=   2   and   [   not   1   =   2   ]   ", 0);
        text("price1+2if1<=2and[not1=2]", 0);
        fault("pri ce 1", 0, 0);
        fault("price 1 2", 8, 0);
        int[] noBlanks = {0, 9, 10, 13, 31, 33, 160};
        for (int sign : noBlanks) {
            fault("price" + (char) sign + "1", 5, 0);
        }

        S.test(5, "[ and not lie within one another 10 deep at most");
        text(nested("[", 9, "]"), 0);
        text(nested("[", 10, "]"), 0);
        fault(nested("[", 11, "]"), 21, 2);
        text(nested("not ", 9, ""), 0);
        text(nested("not ", 10, ""), 0);
        fault(nested("not ", 11, ""), 11 + 40, 2);
        text(nested("not [", 5, "]"), 0);
        fault(nested("not [", 6, "]"), 11 + 25, 2);
        fault(nested("[not ", 5, "]").replace("1=1", "[1=1]"), 11 + 25, 2);
        text(nested("[", 10, "]") + " and " + nested("[", 10, "]").substring(11), 0);
        text(nested("not ", 10, "") + " or " + nested("not ", 10, "").substring(11), 0);
        text("price 1 if [" + "[".repeat(9) + "1=1" + "]".repeat(9) + " or " + "not ".repeat(9) + "1=1]", 0);
        fault("price 1 if [" + "[".repeat(9) + "1=1" + "]".repeat(9) + " or " + "not ".repeat(10) + "1=1]", 73, 2);
        String deep = nested("not [", 5, "]").substring(8);
        S.due("cost by a TEST 10 deep, five times not", price("price 5 " + deep), 0);
        S.due("cost by a TEST 10 deep, ten times not", price("price 5 " + nested("not ", 10, "").substring(8)), 5);

        S.test(5, "at most 60 VALUES (of SUMS) and FACTS made of a SIGN, together.");
        text("price 1" + "+1".repeat(58), 0);
        text("price 1" + "+1".repeat(59), 0);
        fault("price 1" + "+1".repeat(60), 6 + 120, 3);
        text("price 1" + "*1".repeat(59), 0);
        fault("price 1" + "*1".repeat(60), 6 + 120, 3);
        text("price cell" + "+day".repeat(59), 0);
        fault("price cell" + "+day".repeat(60), 10 + 4 * 59 + 1, 3);
        text("price 1 if 1=1" + " or 1=1".repeat(18), 0);
        text("price 1+1+1 if 1=1" + " or 1=1".repeat(18), 0);
        fault("price 1+1+1+1 if 1=1" + " or 1=1".repeat(18), 20 + 7 * 18 - 1, 3);
        fault("price 1 if 1=1" + " or 1=1".repeat(19), 14 + 7 * 18 + 6, 3);
        text("price 1 if " + "not ".repeat(10) + "1=1" + " and 1=1".repeat(18), 0);
        text("price 1" + ";price 1".repeat(10) + ";price 1" + "+1".repeat(48), 0);
        fault("price 1" + ";price 1".repeat(10) + ";price 1" + "+1".repeat(49), 7 + 80 + 8 + 2 * 48 + 1, 3);
        S.due("cost by sixty VALUES", price("price 1" + "+1".repeat(59)), 60);
        FoldDeeds x = new FoldDeeds();
        for (int i = 0; i < 6; i++) {
            S.due("sixty-one of one RULE", Told.rule(x, "price 1" + "+1".repeat(60)), Told.fault(6 + 120, 3));
            S.due("sixty of RULE " + i, Told.rule(x, "price 1" + "+1".repeat(59)), i);
        }
    }

    private static String nested(String opens, int times, String closes) {
        return "price 1 if " + opens.repeat(times) + "1=1" + closes.repeat(times);
    }

    private static void faults() {
        S.test(5, "0 a byte or WORD that can't stand there, or the end (behind the last byte)");
        fault("", 0, 0);
        fault("   ", 3, 0);
        fault("price", 5, 0);
        fault("price  ", 7, 0);
        fault("price 1+", 8, 0);
        fault("price 1+ ", 9, 0);
        fault("price 1 if", 10, 0);
        fault("price 1 if [", 12, 0);
        fault("price 1 if 1=1 and ", 19, 0);
        fault("price 1; ", 9, 0);
        fault("prices 1", 0, 0);
        fault("Price 1", 0, 0);
        fault("cloth 2", 0, 0);
        fault("price price", 6, 0);
        fault("price 1 x", 8, 0);
        fault("price 1 and 1=1", 8, 0);
        fault("price 1 if 1=1 xor 1=1", 15, 0);
        fault("price 1=1", 7, 0);
        fault("price 1" + (char) 0, 7, 0);
        fault("" + (char) 255, 0, 0);

        S.test(5, "1 a NUMBER of more digits, or not as told");
        text("price 99999", 0);
        fault("price 100000", 6, 1);
        fault("price 000000", 6, 1);
        fault("price 1 if 1=123456", 13, 1);
        fault("price 1*123456", 8, 1);

        S.test(5, "2 too deep (at the sign that opens, or the word not)");
        fault("price 1 if" + " [".repeat(11), 31, 2);
        fault("price 1 if" + " not".repeat(11), 11 + 40, 2);
        fault("price 1 if" + " not".repeat(10) + " [", 11 + 40, 2);
        fault("price 1 if" + " not".repeat(10) + " 1=", 11 + 42, 0);
        fault("price 1 if " + "[".repeat(10) + "not", 21, 2);
        fault("price 1 if " + "[".repeat(10) + "nott", 21, 0);

        S.test(5, "3 one VALUE or FACT too many (at its first byte; of a FACT at its SIGN)");
        fault("price 1" + "+1".repeat(59) + "+  cell", 6 + 119 + 3, 3);
        fault("price 1" + "+1".repeat(59) + " if 1=1", 7 + 118 + 4, 3);
        fault("price 1" + "+1".repeat(58) + " if 1  <=  1", 7 + 116 + 7, 3);
        fault("price 1" + "+1".repeat(57) + " if 1  <=  1", 7 + 114 + 11, 3);
        text("price 1" + "+1".repeat(56) + " if 1  <=  1", 0);
        fault("price 1" + "+1".repeat(56) + " if 1<=1+22222", 7 + 112 + 9, 3);
        fault("price 1" + "+1".repeat(56) + " if 1=1 and 1=1", 7 + 112 + 12, 3);
        fault("price 1" + "+1".repeat(56) + " if 1=1;price 1", 7 + 112 + 14, 3);

        S.test(5, "4 one CLAUSE too many,");
        String twelve = "price 1" + ";price 1".repeat(11);
        fault(twelve + ";price 1", twelve.length() + 1, 4);
        fault(twelve + " ;  price", twelve.length() + 4, 4);
        fault(twelve + ";price 123456", twelve.length() + 1, 4);

        S.test(5, "FAULTS, the first along the text, 1 + 8 * its place");
        fault("price 123456 x", 6, 1);
        fault("price x 123456", 6, 0);
        fault("price 1 if " + "[".repeat(11) + "123456", 21, 2);
        fault("price 1 if 123456=" + "[".repeat(11), 11, 1);
        S.due("the FAULT of a place 0", Told.rule(new FoldDeeds(), "x"), -3);
        S.due("the FAULT of a place 400", Told.rule(new FoldDeeds(), "price 1" + " ".repeat(392) + ";"), -3203);

        S.test(5, "Of one place the least.");
        fault("price 1" + "+1".repeat(59) + "+123456", 6 + 120, 1);
        fault("price 1" + "+1".repeat(59) + "+x", 6 + 120, 0);
        fault("price 1" + "+1".repeat(59) + "+", 6 + 120, 0);
        fault("price 1" + "+1".repeat(58) + " if 1~1", 7 + 116 + 5, 0);
        fault("price 1" + "+1".repeat(58) + " if 1", 7 + 116 + 5, 0);
        fault("price 1" + "+1".repeat(58) + " if 1 1", 7 + 116 + 6, 0);
        fault(twelve + ";x", twelve.length() + 1, 0);
        fault(twelve + ";", twelve.length() + 1, 0);
        fault(twelve + ";prices 1", twelve.length() + 1, 0);
    }

    public static void main(String[] args) {
        rule();
        force();
        clauses();
        tests();
        sums();
        words();
        bounds();
        faults();
        S.finish();
    }
}
