/** The bounds of promises 7 to 17: what is seen of the CLOTH, the ACTS, COST and MARKS. */
public final class BoundActTest {
    private static final Sentences S = new Sentences();
    private static final int MIN = Integer.MIN_VALUE;
    private static final int MAX = Integer.MAX_VALUE;

    private static void cell() {
        S.test(7, "Of a CELL what 0: PLACE, 1: LAYER, 2: 1 face up, else 0, 3: whose (NONE: nobody's), 4: WORTH.");
        FoldDeeds x = Told.clothOf("cloth 3;person 9;owner 1 0;worth 2 5");
        S.due("fold", x.fold(0, 0, 0, 0), 5);
        int[][] cells = {{1, 0, 1, -1, 1}, {1, 1, 0, 0, 1}, {0, 0, 0, 0, 5}};
        for (int c = 0; c < 3; c++) {
            for (int what = 0; what <= 4; what++) {
                S.due("cell(" + c + ", " + what + ")", x.cell(c, what), cells[c][what]);
            }
        }

        S.test(7, "-2 without these.");
        int[] none = {-1, 3, 7, 8, MIN, MAX};
        for (int c : none) {
            for (int what = 0; what <= 4; what++) {
                S.due("cell(" + c + ", " + what + ")", x.cell(c, what), -2);
            }
        }
        int[] nothing = {-1, 5, MIN, MAX};
        for (int what : nothing) {
            S.due("cell(0, " + what + ")", x.cell(0, what), -2);
        }
        x = Told.clothOf("cloth 8");
        S.due("cell(7, 0) of eight", x.cell(7, 0), 7);
        S.due("cell(8, 0) of eight", x.cell(8, 0), -2);
        Told.cloth(x, "cloth 2");
        S.due("cell(1, 0) of two, where eight were", x.cell(1, 0), 1);
        S.due("cell(2, 0) of two, where eight were", x.cell(2, 0), -2);
        S.due("cell(0, 0) without a CLOTH", new FoldDeeds().cell(0, 0), -2);
        S.due("cell(0, 3) without a CLOTH", new FoldDeeds().cell(0, 3), -2);
    }

    private static void joint() {
        S.test(8, "Of a JOINT what 0: its crease, 1: its MARK.");
        FoldDeeds x = Told.clothOf("cloth 4;crease 0 1;crease 2 2");
        x.mark(1, 1);
        x.mark(2, 1);
        int[][] joints = {{1, 0}, {0, 1}, {2, 1}};
        for (int j = 0; j < 3; j++) {
            S.due("joint(" + j + ", 0)", x.joint(j, 0), joints[j][0]);
            S.due("joint(" + j + ", 1)", x.joint(j, 1), joints[j][1]);
        }

        S.test(8, "NONE without these.");
        int[] none = {-1, 3, 4, 7, MIN, MAX};
        for (int j : none) {
            S.due("joint(" + j + ", 0)", x.joint(j, 0), -1);
            S.due("joint(" + j + ", 1)", x.joint(j, 1), -1);
        }
        int[] nothing = {-1, 2, MIN, MAX};
        for (int what : nothing) {
            S.due("joint(0, " + what + ")", x.joint(0, what), -1);
        }
        S.due("joint(0, 0) of two", Told.clothOf("cloth 2").joint(0, 0), 0);
        S.due("joint(1, 0) of two", Told.clothOf("cloth 2").joint(1, 0), -1);
        S.due("joint(6, 0) of eight", Told.clothOf("cloth 8").joint(6, 0), 0);
        S.due("joint(7, 0) of eight", Told.clothOf("cloth 8").joint(7, 0), -1);
        S.due("joint(0, 0) without a CLOTH", new FoldDeeds().joint(0, 0), -1);
        S.due("joint(0, 1) without a CLOTH", new FoldDeeds().joint(0, 1), -1);
    }

    private static void person() {
        S.test(9, "Of a PERSON what 0: PURSE, 1: CELLS that are theirs, as bits.");
        FoldDeeds x = Told.clothOf("cloth 8;person 0;person 999;owner 0 0;owner 7 0");
        S.due("person(0, 0)", x.person(0, 0), 0);
        S.due("person(0, 1)", x.person(0, 1), 1 + 128);
        S.due("person(1, 0)", x.person(1, 0), 999);
        S.due("person(1, 1) of no CELL", x.person(1, 1), 0);
        Told.force(x, "price 0");
        x.fold(1, 6, 1, 0);
        x.fold(1, 0, 1, 0);
        S.due("person(1, 1) of each CELL", x.person(1, 1), 255);
        S.due("person(0, 1) of no CELL", x.person(0, 1), 0);

        S.test(9, "NONE without these.");
        int[] none = {-1, 2, 3, 4, MIN, MAX};
        for (int p : none) {
            S.due("person(" + p + ", 0)", x.person(p, 0), -1);
            S.due("person(" + p + ", 1)", x.person(p, 1), -1);
        }
        int[] nothing = {-1, 2, MIN, MAX};
        for (int what : nothing) {
            S.due("person(0, " + what + ")", x.person(0, what), -1);
        }
        x = Told.clothOf("cloth 2;person 1;person 2;person 3;person 4");
        S.due("person(3, 0) of four", x.person(3, 0), 4);
        S.due("person(4, 0) of four", x.person(4, 0), -1);
        Told.cloth(x, "cloth 2");
        S.due("person(0, 0) of none, where four were", x.person(0, 0), -1);
        S.due("person(0, 0) without a CLOTH", new FoldDeeds().person(0, 0), -1);
        S.due("person(0, 1) without a CLOTH", new FoldDeeds().person(0, 1), -1);
        S.due("person(-1, 1), though CELLS are nobody's", x.person(-1, 1), -1);
    }

    private static void thick() {
        S.test(10, "How many LAYERS lie on a PLACE; NONE without it.");
        FoldDeeds x = Told.clothOf("cloth 8;person 99");
        int[] places = {3, 1, 0};
        int[] layers = {1, 2, 4, 8};
        for (int i = 0; i <= 3; i++) {
            int width = 8 >> i;
            S.due("thick(0) of WIDTH " + width, x.thick(0), layers[i]);
            S.due("thick of the last PLACE of WIDTH " + width, x.thick(width - 1), layers[i]);
            S.due("thick behind it", x.thick(width), -1);
            S.due("thick(-1)", x.thick(-1), -1);
            if (i < 3) {
                x.fold(0, places[i], 0, 0);
            }
        }
        S.due("thick(MIN)", x.thick(MIN), -1);
        S.due("thick(MAX)", x.thick(MAX), -1);
        S.due("thick(0) without a CLOTH", new FoldDeeds().thick(0), -1);
        x = Told.clothOf("cloth 3;person 9");
        x.fold(0, 0, 0, 0);
        S.due("thick(0) of a PLACE that came on the left", x.thick(0), 1);
        S.due("thick(1) of it", x.thick(1), 2);
        S.due("thick(2) of it", x.thick(2), -1);
    }

    private static void layers() {
        S.test(10, "The CLOTH lies on PLACES 0 to WIDTH less 1, CELLS above one another in LAYERS (0 the lowest on its"
                + " PLACE), each face up or face down.");
        for (int row = 0; row < 28 * 24; row++) {
            FoldDeeds x = Told.clothOf("cloth 8;person 99");
            x.fold(0, row / 4 % 7, row / 2 % 2, row % 2);
            liesWhole(x);
            x.fold(0, row / 28 / 4, row / 28 / 2 % 2, row / 28 % 2);
            liesWhole(x);
        }
    }

    /** Each PLACE has CELLS, one on each of its LAYERS, and there is no CELL elsewhere. */
    private static void liesWhole(FoldDeeds x) {
        int width = x.count(2);
        int[] seen = new int[9];
        for (int c = 0; c < 8; c++) {
            int place = x.cell(c, 0);
            S.due("whether CELL " + c + " lies on a PLACE", place >= 0 && place < width ? 1 : 0, 1);
            seen[place] |= 1 << x.cell(c, 1);
            S.due("whether it has a face", x.cell(c, 2) & ~1, 0);
        }
        for (int p = 0; p < width; p++) {
            S.due("LAYERS on PLACE " + p + ", as bits", seen[p], (1 << x.thick(p)) - 1);
            S.due("whether there are any", x.thick(p) > 0 ? 1 : 0, 1);
        }
        S.due("thick behind them", x.thick(width), -1);
    }

    private static void foldLies() {
        S.test(11, "A FOLD at a PLACE p (0 to WIDTH less 2) is along the line between PLACES p and p + 1");
        int[][] asks = {{-1, -1}, {0, 4}, {3, 1}, {4, -1}, {5, -1}, {MIN, -1}, {MAX, -1}};
        for (int[] a : asks) {
            FoldDeeds x = Told.clothOf("cloth 5;person 99");
            S.due("fold(0, " + a[0] + ", 0, 0) of WIDTH 5", x.fold(0, a[0], 0, 0), a[1]);
        }
        FoldDeeds x = Told.clothOf("cloth 5;person 99");
        x.fold(0, 2, 0, 0);
        S.due("fold(0, 2, 1, 0) of WIDTH 3", x.fold(0, 2, 1, 0), -1);
        S.due("fold(0, 1, 1, 0) of WIDTH 3", x.fold(0, 1, 1, 0), 2);
        S.due("WIDTH", x.count(2), 2);
        x.fold(0, 0, 0, 0);
        S.due("WIDTH", x.count(2), 1);
        S.due("fold(0, 0, 0, 0) of WIDTH 1", x.fold(0, 0, 0, 0), -1);
        S.due("fold(0, 0, 1, 1) of WIDTH 1", x.fold(0, 0, 1, 1), -1);

        S.test(11, "SIDE 0: all that lies right of it moves, 1: all left of it; WAY 0: over, 1: under.");
        int[][][] due = {{{0, 1, 1}, {0, 0, 1}, {1, 1, 0}}, {{0, 1, 1}, {0, 1, 0}, {1, 1, 0}},
            {{1, 0, 0}, {0, 1, 0}, {0, 0, 1}}, {{1, 0, 0}, {0, 0, 1}, {0, 0, 1}}};
        for (int fold = 0; fold < 4; fold++) {
            x = Told.clothOf("cloth 3;person 9");
            S.due("fold at PLACE 1", x.fold(0, 1, fold / 2, fold % 2), fold < 2 ? 1 : 2);
            S.lies(x, due[fold][0], due[fold][1], due[fold][2]);
            S.due("CELLS that are theirs", x.person(0, 1), fold < 2 ? 4 : 3);
        }
        x = Told.clothOf("cloth 3;person 9");
        int[][] wrong = {{-1, 0}, {2, 0}, {0, -1}, {0, 2}, {MIN, 0}, {0, MAX}};
        for (int[] w : wrong) {
            S.due("fold(0, 1, " + w[0] + ", " + w[1] + ")", x.fold(0, 1, w[0], w[1]), -1);
        }
        S.due("DAY", x.count(5), 0);

        S.test(11, "What moves comes to the PLACE as far on the other side of the line, its LAYERS there turned"
                + " upside down, above all that lies there (over) or below (under); each CELL that moves turns its"
                + " face.");
        int[][] layers = {{0, 3, 2, 1, 0}, {2, 1, 0, 3, 0}, {3, 0, 1, 2, 0}, {1, 2, 3, 0, 0}};
        for (int fold = 0; fold < 4; fold++) {
            x = Told.clothOf("cloth 5;person 9");
            x.fold(0, 1, 0, 0);
            S.lies(x, new int[] {1, 2, 2, 1, 0}, new int[] {0, 0, 1, 1, 0}, new int[] {1, 1, 0, 0, 0});
            x.fold(0, 1, fold / 2, fold % 2);
            boolean left = fold >= 2;
            S.lies(x, left ? new int[] {0, 0, 0, 0, 1} : new int[] {1, 1, 1, 1, 0}, layers[fold],
                    left ? new int[] {0, 1, 0, 1, 1} : new int[] {1, 0, 1, 0, 0});
        }

        S.test(11, "Then PLACES are numbered anew from 0.");
        int[][] places = {{3, 3, 2, 1, 0}, {0, 0, 1, 2, 3}, {0, 1, 2, 3, 3}, {3, 2, 1, 0, 0}};
        for (int fold = 0; fold < 4; fold++) {
            x = Told.clothOf("cloth 5;person 9");
            x.fold(0, fold < 2 ? 0 : 3, fold % 2, 0);
            for (int c = 0; c < 5; c++) {
                S.due("PLACE of CELL " + c, x.cell(c, 0), places[fold][c]);
            }
            S.due("WIDTH", x.count(2), 4);
        }
    }

    private static void foldCreases() {
        S.test(11, "A JOINT whose two CELLS lay one on each side of the line (on PLACES p and p + 1) is creased by"
                + " it: over: a valley if its CELLS lay face up, else a hill; under: a hill if they lay face up,"
                + " else a valley (both lie alike).");
        for (int first = 0; first < 4; first++) {
            for (int second = 0; second < 4; second++) {
                FoldDeeds x = Told.clothOf("cloth 3;person 9");
                x.fold(0, 0, 0, first % 2);
                S.due("a JOINT that the line does not meet", x.joint(1, 0), 0);
                x.fold(0, 0, second / 2, second % 2);
                S.due("face up", x.joint(0, 0), first % 2 == 0 ? 1 : 2);
                S.due("face down", x.joint(1, 0), second % 2 == 0 ? 2 : 1);
            }
        }
        FoldDeeds x = Told.clothOf("cloth 4;person 9");
        x.fold(0, 1, 0, 0);
        x.fold(0, 0, 0, 0);
        S.due("two JOINTS at once", x.count(6), 7);
        S.due("the one that lay face up", x.joint(0, 0), 1);
        S.due("the one that lay face down", x.joint(2, 0), 2);

        S.test(11, "A FOLD can't be, if a JOINT that it would crease has the other kind already.");
        for (int kind = 1; kind <= 2; kind++) {
            String text = "cloth 3;person 9;crease 1 " + kind;
            int fits = kind - 1;
            S.due("the same kind", Told.clothOf(text).fold(0, 1, 0, fits), 1);
            S.due("the same kind, the other SIDE", Told.clothOf(text).fold(0, 1, 1, fits), 2);
            S.refused("the other kind", o -> Told.cloth(o, text), o -> o.fold(0, 1, 0, 1 - fits), -1);
            S.refused("the other kind, the other SIDE", o -> Told.cloth(o, text), o -> o.fold(0, 1, 1, 1 - fits), -1);
            S.due("of a JOINT that it would not crease", Told.clothOf(text).fold(0, 0, 0, fits), 2);
            S.due("of a JOINT that it would not crease", Told.clothOf(text).fold(0, 0, 0, 1 - fits), 2);
        }
        String two = "cloth 4;person 9;crease 2 1";
        S.refused("one of two JOINTS", o -> { Told.cloth(o, two); o.fold(0, 1, 0, 0); }, o -> o.fold(0, 0, 0, 0), -1);
        x = Told.clothOf(two);
        x.fold(0, 1, 0, 0);
        S.due("both of two JOINTS fit", x.fold(0, 0, 0, 1), 1);
        S.due("the crease there was", x.joint(2, 0), 1);
        S.due("the crease there was not", x.joint(0, 0), 2);
    }

    private static void foldSells() {
        S.test(11, "each CELL that moves and is another one's or nobody's costs");
        FoldDeeds x = Told.clothOf("cloth 4;person 99;person 9;owner 1 0;owner 2 1;worth 1 7;worth 2 20;worth 3 50");
        S.due("another one's and nobody's, not their own", x.fold(0, 0, 0, 0), 70);
        x.open();
        S.due("all their own", x.fold(0, 0, 0, 0), 0);
        x.open();
        S.due("what does not move", x.cost(1, 2, 0, 0), 50);

        S.test(11, "without a RULE its WORTH");
        x = Told.clothOf("cloth 3;person 99;worth 1 0;worth 2 99");
        S.due("WORTH 0 and 99", x.fold(0, 0, 0, 0), 99);
        S.due("WORTH without", Told.clothOf("cloth 3;person 99").fold(0, 0, 0, 0), 2);

        S.test(11, "held to 0 to 999");
        x = Told.clothOf("cloth 2;person 999");
        Told.force(x, "price 0-1");
        S.due("below 0", x.fold(0, 0, 0, 0), 0);
        S.due("PURSE", x.person(0, 0), 999);
        x = Told.clothOf("cloth 2;person 999");
        Told.force(x, "price 1000");
        S.due("above 999", x.fold(0, 0, 0, 0), 999);
        S.due("PURSE", x.person(0, 0), 0);
        x = Told.clothOf("cloth 3;person 999");
        Told.force(x, "price 1500-1500*cell");
        S.due("each CELL by itself", x.fold(0, 1, 1, 0), 999);

        S.test(11, "all of it by how all is ahead of the FOLD");
        x = Told.clothOf("cloth 3;person 10");
        Told.force(x, "price purse/2+day*100");
        S.due("both by the same PURSE and DAY", x.fold(0, 0, 0, 0), 10);
        S.due("PURSE", x.person(0, 0), 0);
        x = Told.clothOf("cloth 4;person 99");
        Told.force(x, "price place*10+layer+width");
        S.due("by PLACES, LAYERS and WIDTH ahead of it", x.fold(0, 1, 0, 0), 20 + 4 + 30 + 4);

        S.test(11, "Has the buyer as many coins in their PURSE as these are together");
        String[] purses = {"5", "6", "999"};
        for (String purse : purses) {
            x = Told.clothOf("cloth 3;person " + purse + ";worth 1 2;worth 2 3");
            S.due("5 coins of " + purse, x.fold(0, 0, 0, 0), 5);
            S.due("PURSE", x.person(0, 0), Integer.parseInt(purse) - 5);
        }
        S.refused("5 coins of 4", o -> Told.cloth(o, "cloth 3;person 4;worth 1 2;worth 2 3"),
                o -> o.fold(0, 0, 0, 0), -1);
        S.due("0 coins of 0", Told.clothOf("cloth 2;person 0;worth 1 0").fold(0, 0, 0, 0), 0);
        S.refused("1 coin of 0", o -> Told.cloth(o, "cloth 2;person 0"), o -> o.fold(0, 0, 0, 0), -1);
    }

    private static void foldPays() {
        S.test(11, "they pay each owner their part (9999 at most in a PURSE; nobody's part is lost), and all that"
                + " moves is theirs; else the FOLD can't be.");
        FoldDeeds x = Told.clothOf("cloth 5;person 100;person 10;person 20;owner 0 0;owner 1 1;owner 2 2;owner 3 0");
        Told.force(x, "price cell+1");
        S.due("fold", x.fold(0, 0, 0, 0), 2 + 3 + 5);
        S.due("PURSE of the buyer", x.person(0, 0), 90);
        S.due("PURSE of PERSON 1", x.person(1, 0), 12);
        S.due("PURSE of PERSON 2", x.person(2, 0), 23);
        S.due("CELLS of the buyer", x.person(0, 1), 31);
        S.due("CELLS of PERSON 1", x.person(1, 1), 0);
        S.due("nobody's CELLS", x.count(7), 0);
        x = Told.clothOf("cloth 2;person 999;person 999;person 999;person 999;owner 1 0");
        Told.force(x, "price 999");
        for (int buyer = 1; buyer < 4; buyer++) {
            S.due("fold for all they have", x.fold(buyer, 0, 0, 0), 999);
            S.due("PURSE of the buyer", x.person(buyer, 0), 0);
            S.due("PURSE of PERSON 0", x.person(0, 0), 999 * (buyer + 1));
            x.open();
            S.due("give", x.give(1, 0), buyer);
        }

        S.test(11, "DAY is 1 more by each FOLD (9999 at most; it stays so).");
        x = Told.clothOf("cloth 2;person 9;crease 0 1");
        Told.force(x, "price 0");
        for (int i = 1; i <= 120; i++) {
            x.fold(0, 0, 0, 0);
            S.due("DAY", x.count(5), i);
            x.open();
        }
        S.due("a FOLD that can't be", x.fold(0, 0, 0, 1), -1);
        S.due("DAY behind it", x.count(5), 120);
        S.due("iron", x.iron(0), 1);
        S.due("DAY behind it", x.count(5), 120);
    }

    private static void fold() {
        S.test(11, "FOLD: what the buyer pays; NONE, and nothing happens, without these, or if it can't be.");
        int[][] wrong = {{-1, 0, 0, 0}, {2, 0, 0, 0}, {MIN, 0, 0, 0}, {MAX, 0, 0, 0}, {0, -1, 0, 0}, {0, 2, 0, 0},
            {0, MIN, 0, 0}, {0, MAX, 0, 0}, {0, 0, -1, 0}, {0, 0, 2, 0}, {0, 0, 0, -1}, {0, 0, 0, 2},
            {0, 1 << 30, 0, 0}, {0, 0, MIN, MAX}};
        for (int[] w : wrong) {
            S.refused("fold(" + w[0] + ", " + w[1] + ", " + w[2] + ", " + w[3] + ")",
                    o -> o.fold(w[0], w[1], w[2], w[3]), -1);
        }
        S.due("the last PERSON", Sentences.busy().fold(1, 0, 0, 0), 6);
        S.refused("fold without a PERSON", o -> Told.cloth(o, "cloth 3;worth 1 0;worth 2 0"),
                o -> o.fold(0, 0, 0, 0), -1);
        S.refused("fold without a CLOTH", o -> { }, o -> o.fold(0, 0, 0, 0), -1);
        S.refused("fold of WIDTH 1", o -> { Told.cloth(o, "cloth 2;person 9"); o.fold(0, 0, 0, 0); },
                o -> o.fold(0, 0, 0, 0), -1);
    }

    private static void open() {
        S.test(12, "OPEN (it lies open again, CELL c on PLACE c, face up, if it does not; creases stay)");
        FoldDeeds x = Told.clothOf("cloth 4;person 9;person 8;owner 2 1");
        x.fold(0, 1, 0, 0);
        x.fold(0, 0, 1, 1);
        S.due("open()", x.open(), 1);
        S.lies(x, new int[] {0, 1, 2, 3}, new int[4], new int[] {1, 1, 1, 1});
        S.due("creases", x.count(6), 7);
        S.due("JOINT 0", x.joint(0, 0), 2);
        S.due("JOINT 1", x.joint(1, 0), 1);
        S.due("JOINT 2", x.joint(2, 0), 1);
        S.due("CELLS of PERSON 0", x.person(0, 1), 13);
        S.due("PURSE of PERSON 0", x.person(0, 0), 6);
        S.due("DAY", x.count(5), 2);
        for (int p = 0; p < 4; p++) {
            S.due("thick(" + p + ")", x.thick(p), 1);
        }

        S.test(12, "OPEN: the WIDTH it had; NONE, and nothing happens, if it lies open, or without a CLOTH.");
        for (int width = 1; width < 5; width++) {
            x = Told.clothOf("cloth 5;person 9");
            for (int w = 5; w > width; w--) {
                x.fold(0, 0, 1, 0);
            }
            S.due("open() of WIDTH " + width, x.open(), width);
            S.due("WIDTH", x.count(2), 5);
            S.due("open() again", x.open(), -1);
        }
        S.refused("open() of what lies open", o -> { Sentences.busy(o); o.open(); }, FoldDeeds::open, -1);
        S.refused("open() of what never was folded", o -> Told.cloth(o, "cloth 2;person 1"), FoldDeeds::open, -1);
        S.refused("open() without a CLOTH", o -> { }, FoldDeeds::open, -1);
    }

    private static void iron() {
        S.test(13, "IRON (a JOINT has no crease any more, that had one, if it lies open)");
        FoldDeeds x = Told.clothOf("cloth 4;person 9;crease 0 1;crease 2 2");
        S.due("fold the other way", x.fold(0, 0, 1, 1), -1);
        S.due("iron(0)", x.iron(0), 1);
        S.due("joint(0, 0)", x.joint(0, 0), 0);
        S.due("creases", x.count(6), 4);
        S.due("fold the other way", x.fold(0, 0, 1, 1), 1);
        S.due("joint(0, 0)", x.joint(0, 0), 2);
        S.due("iron(2) while folded", x.iron(2), -1);
        x.open();
        S.due("iron(2)", x.iron(2), 2);
        S.due("iron(0)", x.iron(0), 2);
        S.due("creases", x.count(6), 0);

        S.test(13, "IRON: the crease it had; NONE, and nothing happens, without these.");
        int[] none = {-1, 4, 5, MIN, MAX};
        for (int j : none) {
            S.refused("iron(" + j + ") of what lies open", o -> { Sentences.busy(o); o.open(); }, o -> o.iron(j), -1);
        }
        S.refused("iron(2), which has no crease", o -> { Sentences.busy(o); o.open(); }, o -> o.iron(2), -1);
        S.refused("iron(3) while folded", o -> o.iron(3), -1);
        S.refused("iron(0) twice", o -> { Told.cloth(o, "cloth 2;crease 0 1"); o.iron(0); }, o -> o.iron(0), -1);
        S.refused("iron(1) of two CELLS", o -> Told.cloth(o, "cloth 2;crease 0 1"), o -> o.iron(1), -1);
        S.refused("iron(0) without a CLOTH", o -> { }, o -> o.iron(0), -1);
        S.due("iron(6) of eight CELLS", Told.clothOf("cloth 8;crease 6 2").iron(6), 2);
        S.due("iron(7) of eight CELLS", Told.clothOf("cloth 8;crease 6 2").iron(7), -1);
        S.due("iron(0) of two CELLS", Told.clothOf("cloth 2;crease 0 1").iron(0), 1);
    }

    private static void give() {
        S.test(14, "GIVE (a CELL that is somebody's is another PERSON's)");
        FoldDeeds x = Told.clothOf("cloth 3;person 5;person 6;owner 0 0;owner 2 1");
        S.due("give(0, 1)", x.give(0, 1), 0);
        S.due("whose", x.cell(0, 3), 1);
        S.due("give(2, 0)", x.give(2, 0), 1);
        S.due("CELLS of PERSON 0", x.person(0, 1), 4);
        S.due("CELLS of PERSON 1", x.person(1, 1), 1);
        S.due("PURSE of PERSON 0", x.person(0, 0), 5);
        S.due("PURSE of PERSON 1", x.person(1, 0), 6);
        S.due("DAY", x.count(5), 0);

        S.test(14, "GIVE: whose it was; NONE, and nothing happens, without these.");
        int[][] wrong = {{-1, 0}, {5, 0}, {MIN, 0}, {MAX, 0}, {0, -1}, {0, 2}, {0, MIN}, {0, MAX}, {0, 0}, {2, 1}};
        for (int[] w : wrong) {
            S.refused("give(" + w[0] + ", " + w[1] + ")", o -> o.give(w[0], w[1]), -1);
        }
        S.refused("give(1, 0) of nobody's", o -> Told.cloth(o, "cloth 2;person 1;person 1;owner 0 1"),
                o -> o.give(1, 0), -1);
        S.refused("give(0, 0) without a CLOTH", o -> { }, o -> o.give(0, 0), -1);
        S.refused("give(0, 0) without a PERSON", o -> Told.cloth(o, "cloth 2"), o -> o.give(0, 0), -1);
        x = Told.clothOf("cloth 8;person 1;person 1;person 1;person 1;owner 7 0");
        S.due("give(7, 3) of eight and four", x.give(7, 3), 0);
        S.due("give(7, 4) of eight and four", x.give(7, 4), -1);
        S.due("give(8, 3) of eight and four", x.give(8, 3), -1);
    }

    private static FoldDeeds given(int acts) {
        FoldDeeds x = Told.clothOf("cloth 2;person 1;person 1;person 1;owner 0 0");
        for (int i = 1; i <= acts; i++) {
            x.give(0, i % 3);
        }
        return x;
    }

    private static void undo() {
        S.test(15, "The last 20 can be UNDONE, the last first.");
        int[] many = {0, 1, 19, 20, 21, 22, 45};
        for (int acts : many) {
            FoldDeeds x = given(acts);
            int can = Math.min(acts, 20);
            S.due("ACTS of " + acts, x.count(9), can);
            for (int i = 1; i <= can; i++) {
                S.due("undo() number " + i + " of " + acts, x.undo(), can - i);
                S.due("whose CELL 0 is", x.cell(0, 3), (acts - i) % 3);
            }
            S.due("undo() behind the last of " + acts, x.undo(), -1);
            S.due("whose CELL 0 is", x.cell(0, 3), (acts - can) % 3);
        }
        FoldDeeds x = given(25);
        for (int i = 0; i < 5; i++) {
            x.undo();
        }
        S.due("ACTS", x.count(9), 15);
        for (int i = 1; i <= 7; i++) {
            x.give(0, (20 + i) % 3);
        }
        S.due("ACTS", x.count(9), 20);
        for (int i = 1; i <= 20; i++) {
            x.undo();
        }
        S.due("whose CELL 0 is", x.cell(0, 3), 7 % 3);

        S.test(15, "ACTS: FOLD; OPEN (it lies open again, CELL c on PLACE c, face up, if it does not; creases stay);"
                + " IRON (a JOINT has no crease any more, that had one, if it lies open); GIVE (a CELL that is"
                + " somebody's is another PERSON's).");
        x = Told.clothOf("cloth 3;person 5;person 6;owner 0 1;crease 0 1;crease 1 2");
        S.due("give", x.give(0, 0), 1);
        S.due("iron", x.iron(1), 2);
        S.due("fold", x.fold(1, 0, 1, 0), 1);
        S.due("open", x.open(), 2);
        S.due("ACTS", x.count(9), 4);
        S.due("undo() of OPEN", x.undo(), 3);
        S.lies(x, new int[] {0, 0, 1}, new int[] {1, 0, 0}, new int[] {0, 1, 1});
        S.due("undo() of FOLD", x.undo(), 2);
        S.lies(x, new int[] {0, 1, 2}, new int[3], new int[] {1, 1, 1});
        S.due("PURSE 0", x.person(0, 0), 5);
        S.due("PURSE 1", x.person(1, 0), 6);
        S.due("DAY", x.count(5), 0);
        S.due("whose CELL 0 is", x.cell(0, 3), 0);
        S.due("undo() of IRON", x.undo(), 1);
        S.due("JOINT 1", x.joint(1, 0), 2);
        S.due("undo() of GIVE", x.undo(), 0);
        S.due("whose CELL 0 is", x.cell(0, 3), 1);
        S.due("undo()", x.undo(), -1);

        S.test(15, "The last ACT is UNDONE: how many more can be; NONE, and nothing happens: none can.");
        S.refused("undo() of nothing", o -> Told.cloth(o, "cloth 3;person 7;owner 0 0"), FoldDeeds::undo, -1);
        S.refused("undo() without a CLOTH", o -> { }, FoldDeeds::undo, -1);
        S.refused("undo() behind the last", o -> { Sentences.busy(o); for (int i = 0; i < 4; i++) { o.undo(); } },
                FoldDeeds::undo, -1);
        S.refused("undo() behind back", o -> { Sentences.busy(o); o.back(2); }, FoldDeeds::undo, -1);
        S.refused("undo() behind cloth", o -> { Sentences.busy(o); o.cloth(); }, FoldDeeds::undo, -1);
        x = Sentences.busy();
        x.force(1);
        x.mark(0, 2);
        x.log(0, 0, 0, 9);
        x.seed(5);
        x.image(3);
        Told.rule(x, "price 3");
        S.due("what is no ACT", x.count(9), 4);
        S.due("undo()", x.undo(), 3);
        S.due("the RULE IN FORCE stays", x.count(4), 1);
        S.due("a MARK stays", x.joint(0, 1), 2);
        S.due("LOGS stay", x.count(8), 2);
        S.due("x stays", x.count(10), 5);
        S.due("RULES stay", x.count(3), 3);
        S.due("the IMAGE stays", x.back(3), 2);
    }

    private static void cost() {
        S.test(16, "COST of a FOLD for a buyer, if it can be but for their PURSE.");
        FoldDeeds x = Told.clothOf("cloth 3;person 4;person 5;owner 1 1;worth 1 2;worth 2 3");
        S.due("5 coins of 4", x.cost(0, 0, 0, 0), 5);
        S.due("fold", x.fold(0, 0, 0, 0), -1);
        S.due("3 coins of 5", x.cost(1, 0, 0, 0), 3);
        S.due("fold", x.fold(1, 0, 0, 0), 3);
        S.due("their own", x.cost(1, 0, 1, 0), 0);
        x = Told.clothOf("cloth 8;person 0");
        Told.force(x, "price 999");
        S.due("the most there is", x.cost(0, 0, 0, 0), 7 * 999);
        S.due("one CELL", x.cost(0, 0, 1, 0), 999);

        S.test(16, "COST; -2: it can't be (but for the PURSE); NONE without these.");
        x = Told.clothOf("cloth 3;person 0;person 9;crease 0 1;crease 1 2");
        int[][] asks = {{0, 0, 0, 0, 2}, {0, 0, 0, 1, -2}, {0, 0, 1, 1, -2}, {0, 1, 0, 0, -2}, {0, 1, 1, 1, 2},
            {1, 1, 1, 1, 2}, {2, 0, 0, 0, -1}, {-1, 0, 0, 0, -1}, {0, -1, 0, 0, -1}, {0, 2, 0, 0, -1},
            {0, 0, -1, 0, -1}, {0, 0, 2, 0, -1}, {0, 0, 0, -1, -1}, {0, 0, 0, 2, -1}, {2, 0, 0, 1, -1},
            {MIN, 0, 0, 0, -1}, {0, MAX, 0, 0, -1}, {0, 1 << 30, 0, 0, -1}};
        for (int[] a : asks) {
            S.due("cost(" + a[0] + ", " + a[1] + ", " + a[2] + ", " + a[3] + ")", x.cost(a[0], a[1], a[2], a[3]), a[4]);
        }
        S.due("cost without a CLOTH", new FoldDeeds().cost(0, 0, 0, 0), -1);
        S.due("cost without a PERSON", Told.clothOf("cloth 3").cost(0, 0, 0, 0), -1);
        x = Told.clothOf("cloth 2;person 9");
        x.fold(0, 0, 0, 0);
        S.due("cost of WIDTH 1", x.cost(0, 0, 0, 0), -1);
    }

    private static void mark() {
        S.test(17, "MARKS: kinds of JOINTS that are TOLD (0 none, 1 valley, 2 hill; 0 each at first).");
        FoldDeeds x = Told.clothOf("cloth 8;crease 0 1;crease 6 2");
        for (int j = 0; j < 7; j++) {
            S.due("MARK of JOINT " + j, x.joint(j, 1), 0);
            S.due("mark(" + j + ", 2)", x.mark(j, 2), 0);
        }
        S.due("JOINT 0", x.joint(0, 0), 1);

        S.test(17, "A MARK (kind 0 to 2) is TOLD: which it was; NONE, and nothing happens, without these.");
        x = Told.clothOf("cloth 3");
        int[][] asks = {{0, 0, 0}, {0, 1, 0}, {0, 2, 1}, {0, 2, 2}, {1, 1, 0}, {0, 0, 2}, {0, 1, 0}, {1, 0, 1}};
        for (int[] a : asks) {
            S.due("mark(" + a[0] + ", " + a[1] + ")", x.mark(a[0], a[1]), a[2]);
            S.due("MARK", x.joint(a[0], 1), a[1]);
        }
        int[][] wrong = {{-1, 1}, {4, 1}, {7, 1}, {MIN, 1}, {MAX, 1}, {0, -1}, {0, 3}, {0, MIN}, {0, MAX}, {4, 3}};
        for (int[] w : wrong) {
            S.refused("mark(" + w[0] + ", " + w[1] + ")", o -> o.mark(w[0], w[1]), -1);
        }
        S.refused("mark(0, 1) without a CLOTH", o -> { }, o -> o.mark(0, 1), -1);
        S.refused("mark(1, 1) of two CELLS", o -> Told.cloth(o, "cloth 2"), o -> o.mark(1, 1), -1);
        S.due("mark(0, 1) of two CELLS", Told.clothOf("cloth 2").mark(0, 1), 0);
        S.due("mark(6, 1) of eight CELLS", Told.clothOf("cloth 8").mark(6, 1), 0);
        S.due("mark(7, 1) of eight CELLS", Told.clothOf("cloth 8").mark(7, 1), -1);
        x = Sentences.busy();
        S.due("mark(3, 2) while it lies folded", x.mark(3, 2), 0);
    }

    public static void main(String[] args) {
        cell();
        joint();
        person();
        thick();
        layers();
        foldLies();
        foldCreases();
        foldSells();
        foldPays();
        fold();
        open();
        iron();
        give();
        undo();
        cost();
        mark();
        S.finish();
    }
}
