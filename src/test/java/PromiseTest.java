/** Each promise with answers that were worked out by hand. */
public final class PromiseTest {
    private static int wrong = 0;
    private static int right = 0;

    private static final String FOUR =
            "cloth 4;person 20;person 5;owner 0 0;owner 1 0;owner 2 1;worth 2 3;worth 3 4";

    private static void due(int promise, String call, int got, int want) {
        if (got == want) {
            right++;
        } else {
            wrong++;
            System.out.println("promise " + promise + ": " + call + " answered " + got + ", due is " + want);
        }
    }

    private static void clothFault(String text, int place, int kind) {
        FoldDeeds x = Told.clothOf(FOUR);
        Told.put(x, text);
        due(4, "cloth() of '" + text + "'", x.cloth(), -2 - (1 + 8 * place + kind));
        due(4, "the tape after '" + text + "'", x.count(11), 0);
        due(4, "the cloth after '" + text + "'", x.count(0), 4);
        due(4, "the people after '" + text + "'", x.count(1), 2);
    }

    private static void ruleFault(String text, int place, int kind) {
        FoldDeeds x = new FoldDeeds();
        due(5, "rule() of '" + text + "'", Told.rule(x, text), -2 - (1 + 8 * place + kind));
        due(5, "the rules after '" + text + "'", x.count(3), 0);
        due(5, "the tape after '" + text + "'", x.count(11), 0);
    }

    /** A text with a fault is gone, as any text that was read; all but the tape stays. */
    private static void tapeBehindFaults() {
        FoldDeeds x = Told.clothOf(FOUR);
        x.mark(1, 2);
        x.log(0, 0, 0, 5);
        x.give(0, 1);
        x.seed(77);
        Told.rule(x, "price 2");
        x.force(0);
        Told.put(x, "cloth 5;person 1;person 1;person 1;owner 9 9");
        due(4, "cloth() of a cloth with no such cell", x.cloth(), -2 - (1 + 8 * 41 + 1));
        due(4, "bytes of the tape", x.count(11), 0);
        due(3, "end(1) of it", x.end(1), -1);
        int[] counts = {4, 2, 4, 1, 0, 0};
        for (int what = 0; what < counts.length; what++) {
            due(4, "count(" + what + ") behind a fault", x.count(what), counts[what]);
        }
        due(4, "LOGS behind a fault", x.count(8), 1);
        due(4, "what can be undone behind a fault", x.count(9), 1);
        due(4, "x behind a fault", x.count(10), 77);
        due(4, "a MARK behind a fault", x.joint(1, 1), 2);
        due(2, "feed behind a fault", x.feed(0, 0, 0, 0, 0), 20);
        due(5, "rule() of zeros", x.rule(), -3);
        due(5, "RULES behind a fault", x.count(3), 1);
        due(5, "the RULE IN FORCE behind a fault", x.count(4), 0);
        due(2, "feed behind a rule's fault", x.feed(0, 0, 0, 0, 0), 20);
        due(4, "cloth() of zeros", x.cloth(), -3);
        due(4, "cloth() of nothing", x.cloth(), -3);
        due(5, "rule() of nothing", x.rule(), -3);
        due(5, "the next rule's number", Told.rule(x, "price 3"), 1);
        Told.put(x, "cloth 3");
        due(4, "the next cloth", x.cloth(), 3);
    }

    private static void newObject() {
        FoldDeeds x = new FoldDeeds();
        int[] counts = {0, 0, 0, 0, -1, 0, 0, 0, 0, 0, 0, 0};
        for (int what = 0; what < counts.length; what++) {
            due(1, "count(" + what + ")", x.count(what), counts[what]);
        }
        due(7, "cell(0, 0)", x.cell(0, 0), -2);
        due(8, "joint(0, 0)", x.joint(0, 0), -1);
        due(9, "person(0, 0)", x.person(0, 0), -1);
        due(10, "thick(0)", x.thick(0), -1);
        due(11, "fold", x.fold(0, 0, 0, 0), -1);
        due(12, "open()", x.open(), -1);
        due(13, "iron(0)", x.iron(0), -1);
        due(14, "give(0, 0)", x.give(0, 0), -1);
        due(15, "undo()", x.undo(), -1);
        due(16, "cost", x.cost(0, 0, 0, 0), -1);
        due(17, "mark(0, 1)", x.mark(0, 1), -1);
        due(18, "folds(NONE)", x.folds(-1), -3);
        due(19, "stacks(NONE)", x.stacks(-1), -3);
        due(20, "peek(0)", x.peek(0), -1);
        due(21, "richest(0)", x.richest(0), -1);
        due(22, "own(0, 0, NONE)", x.own(0, 0, -1), -3);
        due(23, "last(0)", x.last(0), -1);
        due(24, "dearest(0, 0)", x.dearest(0, 0), -1);
        due(25, "log(0, 0, 0, 0)", x.log(0, 0, 0, 0), -2);
        due(25, "log(NONE, 0, 0, 0)", x.log(-1, 0, 0, 0), 0);
        due(26, "ruled(0)", x.ruled(0), -3);
        due(27, "look(0)", x.look(0), -1);
        due(29, "days(1, 1, 0)", x.days(1, 1, 0), -1);
        due(32, "back(0)", x.back(0), -1);
        due(31, "image(0)", x.image(0), 0);
        due(32, "back(0) of no cloth", x.back(0), 0);
    }

    private static void tape() {
        FoldDeeds x = new FoldDeeds();
        for (int i = 1; i <= 20; i++) {
            due(2, "feed", x.feed(0, 0, 0, 0, 0), 20 * i);
        }
        due(2, "feed of a full tape", x.feed(0, 0, 0, 0, 0), -1);
        due(3, "end(401)", x.end(401), -1);
        due(3, "end(-1)", x.end(-1), -1);
        due(3, "end(400)", x.end(400), 400);
        due(3, "end(381)", x.end(381), 381);
        due(2, "feed of 381", x.feed(0, 0, 0, 0, 0), -1);
        due(30, "count(11)", x.count(11), 381);
        due(3, "end(380)", x.end(380), 380);
        due(2, "feed of 380", x.feed(0, 0, 0, 0, 0), 400);
        due(3, "end(0)", x.end(0), 0);
        due(3, "end(1) of an empty tape", x.end(1), -1);
        x.feed(0x636C6F74, 0x68203300, 0, 0, -1);
        due(3, "end(7)", x.end(7), 7);
        due(4, "cloth() of 'cloth 3'", x.cloth(), 3);
        due(4, "the tape after it", x.count(11), 0);
    }

    private static void clothTexts() {
        clothFault("", 0, 0);
        clothFault("   ", 3, 0);
        clothFault("cloth", 5, 0);
        clothFault("cloth 1", 6, 1);
        clothFault("cloth 9", 6, 1);
        clothFault("cloth 000003", 6, 1);
        clothFault("cloths 3", 0, 0);
        clothFault(" clot 3", 1, 0);
        clothFault("Cloth 3", 0, 0);
        clothFault("person 3", 0, 4);
        clothFault("worth 0 1000000", 0, 4);
        clothFault("cloth 2;", 8, 0);
        clothFault("cloth 2;;", 8, 0);
        clothFault("cloth 2 2", 8, 0);
        clothFault("cloth 2; cloth 2", 9, 4);
        clothFault("cloth 2;person 1000", 15, 1);
        clothFault("cloth 2;person x", 15, 0);
        clothFault("cloth 2;owner 0 0", 16, 1);
        clothFault("cloth 2;owner 0 0;person 1", 16, 1);
        clothFault("cloth 2;person 0;owner 2 0", 23, 1);
        clothFault("cloth 2;person 0;owner 0 1", 25, 1);
        clothFault("cloth 2;person 0;owner 0", 24, 0);
        clothFault("cloth 2;crease 1 1", 15, 1);
        clothFault("cloth 2;crease 0 0", 17, 1);
        clothFault("cloth 2;crease 0 3", 17, 1);
        clothFault("cloth 2;worth 2 0", 14, 1);
        clothFault("cloth 2;worth 0 100", 16, 1);
        clothFault("cloth 2;price 1", 8, 0);
        clothFault("cloth 2;person 1;person 2;person 3;person 4;person 5", 44, 4);
        String forty = "cloth 2" + ";worth 0 1".repeat(39);
        clothFault(forty + ";", 397 + 1, 0);
        clothFault("cloth2" + ";worth0 1".repeat(39) + ";worth0 1", 6 + 9 * 39 + 1, 4);
        clothFault("cloth2" + ";worth0 1".repeat(39) + ";wort 0 1", 6 + 9 * 39 + 1, 0);
        FoldDeeds x = Told.clothOf(forty);
        due(4, "forty clauses", x.count(0), 2);
        x = Told.clothOf("  cloth  00005  ;  person  00999;worth 4 99;owner 3 0;owner 3 0;worth 4 98; crease 3 2;crease 3 1 ");
        due(4, "CELLS", x.count(0), 5);
        due(4, "PURSE", x.person(0, 0), 999);
        due(4, "WORTH", x.cell(4, 4), 98);
        due(4, "WORTH without", x.cell(0, 4), 1);
        due(4, "crease", x.joint(3, 0), 1);
        due(4, "crease without", x.joint(2, 0), 0);
        due(4, "owner", x.cell(3, 3), 0);
        due(4, "owner without", x.cell(2, 3), -1);
    }

    private static void clothInPlace() {
        FoldDeeds x = Told.clothOf(FOUR);
        Told.rule(x, "price 0");
        x.force(0);
        x.seed(77);
        x.mark(1, 2);
        x.log(0, 0, 0, 0);
        x.fold(0, 1, 0, 0);
        Told.put(x, "cloth 3;person 1");
        due(4, "cloth()", x.cloth(), 3);
        due(4, "LOGS", x.count(8), 0);
        due(4, "MARK", x.joint(1, 1), 0);
        due(4, "ACTS", x.count(9), 0);
        due(4, "DAY", x.count(5), 0);
        due(4, "WIDTH", x.count(2), 3);
        due(4, "PEOPLE", x.count(1), 1);
        due(4, "creases", x.count(6), 0);
        due(4, "RULE IN FORCE", x.count(4), 0);
        due(4, "x", x.count(10), 77);
    }

    private static void ruleTexts() {
        ruleFault("", 0, 0);
        ruleFault("price", 5, 0);
        ruleFault("prices 1", 0, 0);
        ruleFault("price x", 6, 0);
        ruleFault("price if", 6, 0);
        ruleFault("price -1", 6, 0);
        ruleFault("price 123456", 6, 1);
        ruleFault("price 5 %", 9, 0);
        ruleFault("price 1;", 8, 0);
        ruleFault("price 1 if", 10, 0);
        ruleFault("price 1 if cell", 15, 0);
        ruleFault("price 1 if cell = 1]", 19, 0);
        ruleFault("price 1 if [cell = 1", 20, 0);
        ruleFault("price 1 if [cell = 1;", 20, 0);
        ruleFault("price 1 if [cell] = 1", 16, 0);
        ruleFault("price 1 if cell < = 1", 18, 0);
        ruleFault("price 1 if cell =< 1", 17, 0);
        ruleFault("price 1 if cell = 1 = 1", 20, 0);
        ruleFault("price 1 if not", 14, 0);
        ruleFault("price 1 if cell = 1 and", 23, 0);
        ruleFault("price 1 if cell = 1 xor cell = 2", 20, 0);
        ruleFault("price 1 if cell = 1 if cell = 2", 20, 0);
        ruleFault("price 1" + ";price 1".repeat(12), 7 + 8 * 11 + 1, 4);
        ruleFault("price 1" + ";price 1".repeat(11) + ";prize 1", 7 + 8 * 11 + 1, 0);
        ruleFault("price 1 if " + "[".repeat(11) + "cell=1" + "]".repeat(11), 21, 2);
        ruleFault("price 1 if " + "not ".repeat(11) + "cell=1", 11 + 40, 2);
        ruleFault("price 1 if " + "[not ".repeat(5) + "[cell=1", 11 + 25, 2);
        ruleFault("price 1" + "+1".repeat(60), 7 + 119, 3);
        ruleFault("price 1" + "+1".repeat(59) + "+123456", 7 + 119, 1);
        ruleFault("price 1" + "+1".repeat(59) + "+x", 7 + 119, 0);
        ruleFault("price 1" + "+1".repeat(58) + " if 1=1", 7 + 116 + 5, 3);
        ruleFault("price 1" + "+1".repeat(57) + " if 1=1", 7 + 114 + 6, 3);
        ruleFault("price 1" + "+1".repeat(57) + ";price 1;price 1;price 1", 7 + 114 + 23, 3);
        FoldDeeds x = new FoldDeeds();
        due(5, "ten brackets", Told.rule(x, "price 1 if " + "[".repeat(10) + "cell=1" + "]".repeat(10)), 0);
        due(5, "the tape after it", x.count(11), 0);
        due(5, "ten nots, twice", Told.rule(x, "price 1 if " + "not ".repeat(10) + "cell=1 and "
                + "not ".repeat(10) + "cell=1"), 1);
        due(5, "twelve clauses", Told.rule(x, "price 1" + ";price 1".repeat(11)), 2);
        due(5, "sixty values", Told.rule(x, "price 1" + "+1".repeat(59)), 3);
        due(5, "sixty values and facts", Told.rule(x, "price 1" + "+1".repeat(56) + " if 1=1"), 4);
        due(5, "no blank", Told.rule(x, " price1if[cell>=1]and not way=0or day=99999 ; price 00007 "), 5);
        Told.put(x, "price 1");
        due(5, "a seventh", x.rule(), -1);
        due(5, "the tape after it", x.count(11), 7);
        Told.put(x, "price");
        due(5, "a seventh with a fault", x.rule(), -1);
        due(5, "the tape after it", x.count(11), 5);
        due(30, "RULES", x.count(3), 6);
    }

    private static void forcing() {
        FoldDeeds x = new FoldDeeds();
        due(6, "force(0)", x.force(0), -2);
        due(6, "force(NONE)", x.force(-1), -1);
        Told.rule(x, "price 1");
        Told.rule(x, "price 2");
        due(6, "force(2)", x.force(2), -2);
        due(6, "force(-2)", x.force(-2), -2);
        due(6, "force(1)", x.force(1), -1);
        due(6, "force(0)", x.force(0), 1);
        due(30, "count(4)", x.count(4), 0);
        due(6, "force(NONE)", x.force(-1), 0);
        due(30, "count(4)", x.count(4), -1);
    }

    private static void price(String sum, int want) {
        FoldDeeds x = Told.clothOf("cloth 4;person 30;person 5;owner 3 1;worth 3 7");
        Told.rule(x, "price 0");
        x.force(0);
        x.fold(0, 0, 1, 0);
        x.fold(0, 0, 1, 0);
        Told.rule(x, "price " + sum + " if cell = 3");
        x.force(1);
        due(16, "cost by 'price " + sum + "'", x.cost(0, 0, 1, 1), 0);
        due(16, "cost by 'price " + sum + "'", x.cost(0, 0, 0, 0), want);
    }

    /** Of cell 3, alone on place 1 of 2, of person 1, worth 7, bought by person 0 with 30, on day 2. */
    private static void prices() {
        price("cell", 3);
        price("worth", 7);
        price("buyer + 1", 1);
        price("owner", 1);
        price("layer", 0);
        price("place", 1);
        price("moved", 1);
        price("width", 2);
        price("way", 0);
        price("purse", 30);
        price("day", 2);
        price("1 - 2", 0);
        price("1000", 999);
        price("2 + 3 * 4", 14);
        price("20 - 3 - 4", 13);
        price("7 / 2 * 2", 6);
        price("17 % 5", 2);
        price("9 + 7 / 0", 9);
        price("9 + 7 % 0", 9);
        price("0 - 7 / 2 + 10", 7);
        price("99999*99999*99999*99999 % 1000", 921);
        price("99999*99999*99999*99999*99999 % 1000 + 1000", 415);
        price("99999*99999*99999*99999*99999 / 99999 / 99999 / 99999 + 400", 63);
        FoldDeeds x = Told.clothOf("cloth 8;person 999;worth 7 9");
        Told.rule(x, "price 1 if cell = 1; price 2 if cell <= 2 or cell = 4 and cell > 4; price 4 if not [ cell < 6"
                + " or cell = 7 ]; price 8 if cell >= 7; price 16 if cell = 3 and not cell > 3");
        x.force(0);
        due(16, "cost by clauses of 1 to 7", x.cost(0, 0, 0, 0), 1 + 2 + 16 + 0 + 0 + 4 + 8);
        due(16, "cost by clauses of 0", x.cost(0, 0, 1, 1), 2);
        x.force(-1);
        due(16, "cost by worth", x.cost(0, 0, 0, 0), 15);
    }

    private static void folding() {
        FoldDeeds x = Told.clothOf(FOUR);
        due(16, "cost(0, 1, 0, 0)", x.cost(0, 1, 0, 0), 7);
        due(16, "cost(1, 1, 0, 0)", x.cost(1, 1, 0, 0), 4);
        due(16, "cost(0, 1, 1, 0)", x.cost(0, 1, 1, 0), 0);
        int[][] wrongs = {{-1, 0, 0, 0}, {2, 0, 0, 0}, {0, -1, 0, 0}, {0, 3, 0, 0}, {0, 0, -1, 0}, {0, 0, 2, 0},
            {0, 0, 0, -1}, {0, 0, 0, 2}};
        for (int[] w : wrongs) {
            due(16, "cost without", x.cost(w[0], w[1], w[2], w[3]), -1);
            due(11, "fold without", x.fold(w[0], w[1], w[2], w[3]), -1);
        }
        due(15, "undo() of nothing", x.undo(), -1);
        due(11, "fold(1, 2, 1, 0) for 2", x.fold(1, 2, 1, 0), 2);
        due(9, "PURSE", x.person(1, 0), 3);
        due(9, "PURSE", x.person(0, 0), 22);
        due(15, "undo()", x.undo(), 0);
        due(11, "fold(0, 1, 0, 0)", x.fold(0, 1, 0, 0), 7);
        due(9, "PURSE 0", x.person(0, 0), 13);
        due(9, "PURSE 1", x.person(1, 0), 8);
        due(9, "CELLS 0", x.person(0, 1), 15);
        due(9, "CELLS 1", x.person(1, 1), 0);
        seen(x, new int[] {0, 1, 1, 0}, new int[] {0, 0, 1, 1}, new int[] {1, 1, 0, 0});
        due(8, "joint(1, 0)", x.joint(1, 0), 1);
        due(30, "DAY", x.count(5), 1);
        due(30, "WIDTH", x.count(2), 2);
        due(10, "thick(0)", x.thick(0), 2);
        due(10, "thick(2)", x.thick(2), -1);
        due(10, "thick(-1)", x.thick(-1), -1);
        due(11, "fold(0, 0, 1, 1)", x.fold(0, 0, 1, 1), 0);
        seen(x, new int[] {0, 0, 0, 0}, new int[] {1, 2, 3, 0}, new int[] {0, 1, 0, 1});
        due(8, "joint(0, 0)", x.joint(0, 0), 2);
        due(8, "joint(2, 0)", x.joint(2, 0), 1);
        due(10, "thick(0)", x.thick(0), 4);
        due(11, "fold of WIDTH 1", x.fold(0, 0, 0, 0), -1);
        due(24, "dearest of WIDTH 1", x.dearest(0, 0), -2);
        due(24, "dearest of WIDTH 1", x.dearest(0, 1), -2);
        due(13, "iron while folded", x.iron(0), -1);
        due(12, "open()", x.open(), 1);
        seen(x, new int[] {0, 1, 2, 3}, new int[4], new int[] {1, 1, 1, 1});
        due(12, "open() again", x.open(), -1);
        due(30, "creases", x.count(6), 7);
        due(11, "fold the other way", x.fold(0, 1, 0, 1), -1);
        due(16, "cost the other way", x.cost(0, 1, 0, 1), -2);
        due(11, "fold the same way", x.fold(0, 1, 0, 0), 0);
        due(30, "DAY", x.count(5), 3);
        due(30, "ACTS", x.count(9), 4);
    }

    private static void seen(FoldDeeds x, int[] place, int[] layer, int[] up) {
        for (int c = 0; c < place.length; c++) {
            due(7, "cell(" + c + ", 0)", x.cell(c, 0), place[c]);
            due(7, "cell(" + c + ", 1)", x.cell(c, 1), layer[c]);
            due(7, "cell(" + c + ", 2)", x.cell(c, 2), up[c]);
        }
    }

    /** A part that reaches beyond the other one makes places on the left. */
    private static void foldingFar() {
        FoldDeeds x = Told.clothOf("cloth 4;person 99");
        due(11, "fold(0, 0, 0, 0)", x.fold(0, 0, 0, 0), 3);
        seen(x, new int[] {2, 2, 1, 0}, new int[] {0, 1, 0, 0}, new int[] {1, 0, 0, 0});
        due(11, "fold(0, 0, 0, 1)", x.fold(0, 0, 0, 1), 1);
        due(8, "joint(2, 0)", x.joint(2, 0), 1);
        seen(x, new int[] {0, 0, 1, 1}, new int[] {1, 0, 0, 1}, new int[] {0, 1, 1, 0});
        x = Told.clothOf("cloth 4;person 99");
        due(11, "fold(0, 2, 1, 0)", x.fold(0, 2, 1, 0), 3);
        seen(x, new int[] {2, 1, 0, 0}, new int[] {0, 0, 1, 0}, new int[] {0, 0, 0, 1});
        due(8, "joint(2, 0)", x.joint(2, 0), 1);
        due(30, "nobody's", x.count(7), 8);
        x = Told.clothOf("cloth 2;person 1;worth 1 2");
        due(11, "too dear", x.fold(0, 0, 0, 0), -1);
        due(16, "cost of it", x.cost(0, 0, 0, 0), 2);
        due(30, "DAY", x.count(5), 0);
        due(11, "just as many", x.fold(0, 0, 1, 0), 1);
        due(9, "PURSE", x.person(0, 0), 0);
    }

    private static void paying() {
        FoldDeeds x = Told.clothOf("cloth 8;person 999;person 999;person 999;person 999;owner 0 0;owner 1 0;owner 2 0"
                + ";owner 3 0;owner 4 0;owner 5 0;owner 6 0;owner 7 0");
        Told.rule(x, "price purse / 7 if moved = 7;price purse;price 0");
        x.force(0);
        due(11, "fold for all", x.fold(1, 0, 0, 0), 994);
        due(9, "PURSE 0", x.person(0, 0), 1993);
        due(9, "PURSE 1", x.person(1, 0), 5);
        Told.rule(x, "price 9999");
        x.force(1);
        due(16, "held to 999", x.cost(2, 0, 1, 0), 999);
    }

    private static void otherActs() {
        FoldDeeds x = Told.clothOf("cloth 3;person 5;person 6;owner 0 1;crease 0 1;crease 1 2");
        due(14, "give(0, 1) to the same", x.give(0, 1), -1);
        due(14, "give(1, 0) of nobody's", x.give(1, 0), -1);
        due(14, "give(3, 0)", x.give(3, 0), -1);
        due(14, "give(0, 2)", x.give(0, 2), -1);
        due(14, "give(0, -1)", x.give(0, -1), -1);
        due(14, "give(0, 0)", x.give(0, 0), 1);
        due(7, "cell(0, 3)", x.cell(0, 3), 0);
        due(9, "PURSE 0", x.person(0, 0), 5);
        due(13, "iron(2)", x.iron(2), -1);
        due(13, "iron(-1)", x.iron(-1), -1);
        due(13, "iron(1)", x.iron(1), 2);
        due(13, "iron(1) again", x.iron(1), -1);
        due(30, "count(6)", x.count(6), 1);
        due(30, "DAY", x.count(5), 0);
        due(11, "fold(0, 1, 0, 0)", x.fold(0, 1, 0, 0), 1);
        due(14, "give while folded", x.give(2, 1), 0);
        due(12, "open()", x.open(), 2);
        due(30, "ACTS", x.count(9), 5);
        due(15, "undo() open", x.undo(), 4);
        due(30, "WIDTH", x.count(2), 2);
        due(15, "undo() give", x.undo(), 3);
        due(7, "cell(2, 3)", x.cell(2, 3), 0);
        due(15, "undo() fold", x.undo(), 2);
        due(30, "DAY", x.count(5), 0);
        due(9, "PURSE 0", x.person(0, 0), 5);
        due(30, "count(6)", x.count(6), 1);
        due(15, "undo() iron", x.undo(), 1);
        due(8, "joint(1, 0)", x.joint(1, 0), 2);
        due(15, "undo() give", x.undo(), 0);
        due(7, "cell(0, 3)", x.cell(0, 3), 1);
        due(15, "undo()", x.undo(), -1);
        for (int i = 1; i <= 25; i++) {
            x.give(0, i % 2 == 1 ? 0 : 1);
            due(30, "ACTS", x.count(9), Math.min(i, 20));
        }
        for (int i = 19; i >= 0; i--) {
            due(15, "undo()", x.undo(), i);
        }
        due(15, "undo()", x.undo(), -1);
        due(7, "cell(0, 3)", x.cell(0, 3), 0);
        due(7, "cell(0, 5)", x.cell(0, 5), -2);
        due(7, "cell(0, -1)", x.cell(0, -1), -2);
        due(7, "cell(3, 0)", x.cell(3, 0), -2);
        due(8, "joint(2, 0)", x.joint(2, 0), -1);
        due(8, "joint(0, 2)", x.joint(0, 2), -1);
        due(9, "person(2, 0)", x.person(2, 0), -1);
        due(9, "person(0, 2)", x.person(0, 2), -1);
    }

    private static FoldDeeds marked(int cells, int... kinds) {
        FoldDeeds x = Told.clothOf("cloth " + cells);
        for (int j = 0; j < kinds.length; j++) {
            x.mark(j, kinds[j]);
        }
        return x;
    }

    private static void row(FoldDeeds x, int... want) {
        due(18, "folds(NONE)", x.folds(-1), want.length);
        for (int i = 0; i <= 6; i++) {
            due(18, "folds(" + i + ")", x.folds(i), i < want.length ? want[i] : -2);
        }
    }

    private static void marks() {
        FoldDeeds x = Told.clothOf("cloth 3;person 9;crease 1 2");
        due(17, "mark(2, 1)", x.mark(2, 1), -1);
        due(17, "mark(-1, 1)", x.mark(-1, 1), -1);
        due(17, "mark(0, 3)", x.mark(0, 3), -1);
        due(17, "mark(0, -1)", x.mark(0, -1), -1);
        due(17, "mark(0, 1)", x.mark(0, 1), 0);
        due(17, "mark(0, 2)", x.mark(0, 2), 1);
        due(8, "joint(0, 1)", x.joint(0, 1), 2);
        due(8, "joint(1, 1)", x.joint(1, 1), 0);
        row(x, 1);
        x.mark(0, 0);
        row(x);
        due(18, "folds(7)", x.folds(7), -3);
        due(18, "folds(-2)", x.folds(-2), -3);
        row(marked(3, 1, 1), 0, 1);
        row(marked(4, 1, 0, 1), 0, 1);
        row(marked(4, 1, 1, 2), 4, 0);
        row(marked(8, 1, 1, 2, 1, 1, 2, 2), 12, 4, 0);
        x = marked(5, 0, 1, 1, 0);
        for (int what = -1; what <= 6; what++) {
            due(18, "folds by none", x.folds(what), -2);
        }
    }

    private static void stacking() {
        FoldDeeds x = marked(3, 1, 1);
        int[] dues = {2, 0, 2, 1, -2, -2, -2, -2, -2};
        for (int what = -1; what <= 7; what++) {
            due(19, "stacks(" + what + ")", x.stacks(what), dues[what + 1]);
        }
        due(19, "stacks(10)", x.stacks(10), 3);
        due(19, "stacks(11)", x.stacks(11), 4);
        due(19, "stacks(12)", x.stacks(12), 3);
        due(19, "stacks(13)", x.stacks(13), -2);
        due(19, "stacks(17)", x.stacks(17), -2);
        for (int what : new int[] {-2, 8, 9, 18, Integer.MAX_VALUE, Integer.MIN_VALUE}) {
            due(19, "stacks(" + what + ")", x.stacks(what), -3);
        }
        due(20, "peek(0)", x.peek(0), 0);
        due(20, "peek(1)", x.peek(1), 1);
        due(20, "peek(2)", x.peek(2), -1);
        due(20, "peek(-1)", x.peek(-1), -1);
        due(21, "richest(0)", x.richest(0), 2);
        due(21, "richest(1)", x.richest(1), 0);
        due(21, "richest(2)", x.richest(2), -1);
        due(21, "richest(-1)", x.richest(-1), -1);
        int[] known = {2, 6, 16, 50, 144, 462, 1392};
        for (int cells = 2; cells <= 8; cells++) {
            due(19, "stacks of " + cells, Told.clothOf("cloth " + cells).stacks(-1), known[cells - 2]);
        }
        x = marked(2, 0);
        due(20, "peek(0)", x.peek(0), 0);
        due(20, "peek(1)", x.peek(1), 1);
        x.mark(0, 2);
        due(19, "stacks(0)", x.stacks(0), 1);
        x = marked(4, 1, 2, 1);
        due(19, "stacks of a zigzag", x.stacks(-1), 1);
        due(20, "peek(1)", x.peek(1), 1);
        due(20, "peek(0)", x.peek(0), 0);
        due(19, "stacks(3)", x.stacks(3), 3);
    }

    private static void owning() {
        FoldDeeds x = Told.clothOf("cloth 3;person 10;person 2");
        int[][] asks = {{0, 7, -1, 2}, {0, 7, 0, 0}, {0, 7, 1, 0}, {0, 7, 2, -2}, {0, 0, -1, -3}, {0, 0, 0, -3},
            {0, 6, -1, 1}, {0, 6, 0, 0}, {0, 1, -1, 1}, {0, 1, 0, 2}, {1, 7, -1, -2}, {1, 7, 0, -2}, {1, 3, -1, 1},
            {1, 3, 0, 6}, {0, 8, -1, -3}, {0, -1, -1, -3}, {2, 1, -1, -3}, {-1, 1, -1, -3}, {0, 1, 3, -3},
            {0, 1, -2, -3}, {0, 0, 1, -3}, {0, 0, 2, -3}, {1, 0, -1, -3}, {0, Integer.MIN_VALUE, -1, -3},
            {0, Integer.MAX_VALUE, -1, -3}, {0, 16, 0, -3}};
        for (int[] a : asks) {
            due(22, "own(" + a[0] + ", " + a[1] + ", " + a[2] + ")", x.own(a[0], a[1], a[2]), a[3]);
        }
        due(22, "nothing changes", x.count(7), 7);
        x.fold(0, 0, 0, 0);
        due(22, "own what is theirs", x.own(0, 6, -1), 0);
        due(22, "own what is theirs", x.own(0, 6, 0), -2);
        due(22, "own no cell", x.own(0, 0, -1), -3);
        due(22, "own from now on", x.own(0, 7, -1), 1);
        due(22, "own from now on", x.own(0, 7, 0), 0);
    }

    private static void lasting() {
        int[] place = {0, -2, 0, 1, 2, -2, 0};
        for (int cells = 2; cells <= 8; cells++) {
            FoldDeeds x = Told.clothOf("cloth " + cells + ";crease 0 2");
            due(23, "last(0) of " + cells, x.last(0), place[cells - 2] < 0 ? 0 : 1);
            due(23, "last(1) of " + cells, x.last(1), place[cells - 2]);
        }
        FoldDeeds x = Told.clothOf("cloth 2;person 9");
        due(23, "last(2)", x.last(2), -1);
        due(23, "last(-1)", x.last(-1), -1);
        x.fold(0, 0, 0, 0);
        due(23, "last(0) of WIDTH 1", x.last(0), 0);
        due(23, "last(1) of WIDTH 1", x.last(1), -2);
    }

    private static void dearestFold() {
        FoldDeeds x = Told.clothOf(FOUR);
        due(24, "dearest(0, 0)", x.dearest(0, 0), 7);
        due(24, "dearest(0, 1)", x.dearest(0, 1), 0);
        due(24, "dearest(1, 0)", x.dearest(1, 0), 5);
        due(24, "dearest(1, 1)", x.dearest(1, 1), 0);
        due(24, "dearest(2, 0)", x.dearest(2, 0), -1);
        due(24, "dearest(0, 2)", x.dearest(0, 2), -1);
        x = Told.clothOf("cloth 3;person 0;worth 0 50;crease 1 2");
        due(24, "dearest(0, 0)", x.dearest(0, 0), 51);
        due(24, "dearest(0, 1)", x.dearest(0, 1), 7);
    }

    private static void logs() {
        FoldDeeds x = Told.clothOf(FOUR);
        Told.rule(x, "price worth*2");
        Told.rule(x, "price 3");
        Told.rule(x, "price worth if owner < 0");
        due(26, "ruled(0)", x.ruled(0), 4);
        due(26, "ruled(1)", x.ruled(1), -1);
        due(27, "look(0)", x.look(0), 0);
        due(27, "look(1)", x.look(1), 1);
        int[][] wrongs = {{3, 0, 0, 0}, {-2, 0, 0, 0}, {0, 2, 0, 0}, {0, -1, 0, 0}, {0, 0, 2, 0}, {0, 0, -1, 0},
            {0, 0, 0, -1}, {0, 0, 0, 10000}};
        for (int[] w : wrongs) {
            due(25, "log without", x.log(w[0], w[1], w[2], w[3]), -2);
        }
        due(30, "LOGS", x.count(8), 0);
        x.fold(0, 1, 0, 0);
        x.give(3, 1);
        due(25, "log(2, 0, 0, 4)", x.log(2, 0, 0, 4), 1);
        due(26, "ruled(0)", x.ruled(0), 2);
        due(26, "ruled(1)", x.ruled(1), -1);
        due(27, "look(0)", x.look(0), 0);
        due(27, "look(1)", x.look(1), 1);
        due(25, "log(0, 0, 0, 4)", x.log(0, 0, 0, 4), 2);
        due(26, "ruled(0)", x.ruled(0), 1);
        due(26, "ruled(1)", x.ruled(1), 2);
        due(25, "log(1, 0, 0, 9999)", x.log(1, 0, 0, 9999), 3);
        due(26, "ruled(0)", x.ruled(0), 0);
        due(26, "ruled(1)", x.ruled(1), -2);
        due(27, "look(0)", x.look(0), -2);
        due(26, "ruled(2)", x.ruled(2), -3);
        due(26, "ruled(-1)", x.ruled(-1), -3);
        due(27, "look(2)", x.look(2), -1);
        for (int i = 4; i <= 10; i++) {
            due(25, "log", x.log(0, 0, 0, 0), i);
        }
        due(25, "an eleventh", x.log(0, 0, 0, 0), -2);
        due(25, "log(NONE, 9, 9, -9)", x.log(-1, 9, 9, -9), 0);
        due(30, "LOGS", x.count(8), 0);
        x = Told.clothOf("cloth 3;crease 0 2");
        due(25, "log without a PERSON", x.log(0, 0, 1, 0), -2);
        due(26, "ruled(0) without a PERSON", x.ruled(0), 1);
        due(27, "look(0) without a PERSON", x.look(0), -2);
        x = Told.clothOf("cloth 3;person 9;crease 0 2;owner 1 0;owner 2 0");
        Told.rule(x, "price worth + cell");
        due(27, "look(0) of costs alike", x.look(0), 0);
        due(27, "look(1) of costs alike", x.look(1), 2);
        x.log(0, 0, 0, 0);
        due(26, "a FOLD that can't be", x.ruled(0), 0);
        x = Told.clothOf("cloth 3;person 9;crease 0 2");
        Told.rule(x, "price worth + cell");
        due(27, "look(0) past a FOLD that can't be", x.look(0), 1);
        due(27, "look(1) past a FOLD that can't be", x.look(1), 1);
    }

    /** By seed 0 draws are 0, 21468, 9988, 22117, 3498, 16927, 16045, 19741, 12122, 8410, 12261, 27052, 5659, .. */
    private static void drawing() {
        FoldDeeds x = Told.clothOf("cloth 2;person 5");
        due(29, "days(1, 1, 0)", x.days(1, 1, 0), 1);
        due(29, "days(1, 4, 0)", x.days(1, 4, 0), 2);
        due(29, "days(1, 4, 1)", x.days(1, 4, 1), 1);
        due(29, "days(2, 1, 0)", x.days(2, 1, 0), 2);
        due(29, "days(2, 1, 1)", x.days(2, 1, 1), 2);
        due(29, "days(1, 2, 1)", x.days(1, 2, 1), 1);
        due(30, "x", x.count(10), 0);
        due(30, "DAY", x.count(5), 0);
        int[][] wrongs = {{0, 1, 0}, {11, 1, 0}, {1, 0, 0}, {1, 31, 0}, {1, 1, 2}, {1, 1, -1}};
        for (int[] w : wrongs) {
            due(29, "days without", x.days(w[0], w[1], w[2]), -1);
        }
        due(28, "seed(-1)", x.seed(-1), -1);
        due(28, "seed(2147483647)", x.seed(Integer.MAX_VALUE), 0);
        due(28, "seed(5)", x.seed(5), Integer.MAX_VALUE);
        due(30, "x", x.count(10), 5);
        x = Told.clothOf("cloth 5");
        due(29, "days without PEOPLE", x.days(10, 30, 0), 0);
        due(29, "days without PEOPLE", x.days(10, 30, 1), 0);
    }

    private static void counting() {
        FoldDeeds x = Told.clothOf(FOUR);
        due(30, "CELLS", x.count(0), 4);
        due(30, "PEOPLE", x.count(1), 2);
        due(30, "WIDTH", x.count(2), 4);
        due(30, "nobody's", x.count(7), 8);
        due(30, "count(12)", x.count(12), -1);
        due(30, "count(-1)", x.count(-1), -1);
    }

    private static void imaging() {
        FoldDeeds x = Told.clothOf(FOUR);
        Told.rule(x, "price 1");
        x.force(0);
        x.mark(0, 2);
        x.log(0, 0, 0, 3);
        x.seed(99);
        x.fold(0, 1, 0, 0);
        due(31, "image(-1)", x.image(-1), -1);
        due(31, "image(4)", x.image(4), -1);
        due(32, "back(3) never made", x.back(3), -1);
        due(31, "image(3)", x.image(3), 1);
        due(30, "ACTS", x.count(9), 1);
        x.force(-1);
        x.mark(0, 1);
        x.log(-1, 0, 0, 0);
        x.seed(1);
        x.open();
        x.fold(1, 1, 0, 0);
        Told.rule(x, "price 2");
        Told.put(x, "cloth 7;worth 1 7");
        x.cloth();
        Told.put(x, "abc");
        due(31, "image(0)", x.image(0), 0);
        for (int i = 0; i < 2; i++) {
            due(32, "back(3)", x.back(3), 1);
            due(32, "CELLS", x.count(0), 4);
            due(32, "WIDTH", x.count(2), 2);
            due(32, "RULE IN FORCE", x.count(4), 0);
            due(32, "RULES", x.count(3), 2);
            due(32, "TAPE", x.count(11), 3);
            due(32, "LOGS", x.count(8), 1);
            due(32, "x", x.count(10), 99);
            due(32, "ACTS", x.count(9), 0);
            due(32, "undo()", x.undo(), -1);
            due(32, "MARK", x.joint(0, 1), 2);
            due(32, "PURSE", x.person(0, 0), 18);
            due(32, "WORTH", x.cell(1, 4), 1);
            due(32, "ruled(0)", x.ruled(0), 0);
            seen(x, new int[] {0, 1, 1, 0}, new int[] {0, 0, 1, 1}, new int[] {1, 1, 0, 0});
            due(32, "back(0)", x.back(0), 0);
            due(32, "CELLS", x.count(0), 7);
            due(32, "back(4)", x.back(4), -1);
            due(32, "back(-1)", x.back(-1), -1);
        }
    }

    public static void main(String[] args) {
        newObject();
        tape();
        tapeBehindFaults();
        clothTexts();
        clothInPlace();
        ruleTexts();
        forcing();
        prices();
        folding();
        foldingFar();
        paying();
        otherActs();
        marks();
        stacking();
        owning();
        lasting();
        dearestFold();
        logs();
        drawing();
        counting();
        imaging();
        System.out.println(right + " answers are as due, " + wrong + " are not");
        if (wrong > 0) {
            System.exit(1);
        }
    }
}
