import java.util.function.ToIntFunction;

/** The bounds of promises 18 to 27: what is asked of a CLOTH and of LOGS. */
public final class BoundAskTest {
    private static final Sentences S = new Sentences();
    private static final int MIN = Integer.MIN_VALUE;
    private static final int MAX = Integer.MAX_VALUE;

    private static FoldDeeds marked(int cells, int... kinds) {
        FoldDeeds x = Told.clothOf("cloth " + cells);
        for (int j = 0; j < kinds.length; j++) {
            x.mark(j, kinds[j]);
        }
        return x;
    }

    private static void asked(int promise, String call, ToIntFunction<FoldDeeds> ask) {
        S.test(promise, "(By what is asked nothing changes.)");
        FoldDeeds x = Sentences.busy();
        FoldDeeds twin = Sentences.busy();
        int first = ask.applyAsInt(x);
        S.due(call + " again", ask.applyAsInt(x), first);
        S.alike(call, x, twin);
    }

    private static void nothingChanges() {
        asked(16, "cost", o -> o.cost(1, 0, 0, 0));
        asked(18, "folds", o -> o.folds(0));
        asked(19, "stacks", o -> o.stacks(10));
        asked(20, "peek", o -> o.peek(0));
        asked(21, "richest", o -> o.richest(1));
        asked(22, "own", o -> o.own(1, 31, -1));
        asked(23, "last", o -> o.last(1));
        asked(24, "dearest", o -> o.dearest(1, 1));
        asked(26, "ruled", o -> o.ruled(1));
        asked(27, "look", o -> o.look(1));
        asked(29, "days", o -> o.days(10, 30, 1));
    }

    private static void row(FoldDeeds x, int... want) {
        S.due("folds(NONE)", x.folds(-1), want.length);
        for (int i = 0; i <= 6; i++) {
            S.due("folds(" + i + ")", x.folds(i), i < want.length ? want[i] : -2);
        }
    }

    private static void folds() {
        S.test(18, "FOLDS what NONE: how many, 0 to 6: the FOLD of that number: 4 * PLACE + 2 * SIDE + WAY (-2: so"
                + " many there are not); -2: by none.");
        row(marked(2));
        row(marked(8));
        row(marked(2, 1), 0);
        row(marked(2, 2), 1);
        row(marked(8, 0, 0, 0, 0, 0, 0, 2), 4 * 6 + 1);
        row(marked(7, 1, 2, 1, 2, 1, 2), 0, 0, 1, 1, 0, 0);
        row(marked(8, 1, 2, 1, 2, 1, 2, 1), 0, 1, 1, 0, 0, 1, 1);
        row(marked(8, 1, 1, 1, 1, 1, 1, 1), 0, 1, 0, 1, 0, 1, 0);
        FoldDeeds x = marked(5, 0, 1, 1, 0);
        for (int what = -1; what <= 6; what++) {
            S.due("folds(" + what + ") by none", x.folds(what), -2);
        }

        S.test(18, "-3 for others, or without a CLOTH.");
        int[] none = {-2, 7, 8, MIN, MAX};
        for (int what : none) {
            S.due("folds(" + what + ")", marked(8, 1, 1, 1, 1, 1, 1, 1).folds(what), -3);
            S.due("folds(" + what + ") by none", x.folds(what), -3);
        }
        for (int what = -2; what <= 7; what++) {
            S.due("folds(" + what + ") without a CLOTH", new FoldDeeds().folds(what), -3);
        }

        S.test(18, "FOLDS to the MARKS, from a CLOTH of as many CELLS that lies open without a crease (nobody buys,"
                + " nothing is looked at but creases)");
        x = Told.clothOf("cloth 3;person 9;crease 1 2");
        Told.force(x, "price 999 if day>0");
        x.fold(0, 0, 0, 0);
        x.mark(0, 2);
        x.mark(1, 1);
        row(x, 1, 1);
        x = Told.clothOf("cloth 3;crease 0 1;crease 1 1");
        row(x);

        S.test(18, "the fewest FOLDS by which each JOINT has the kind of its MARK, and no other one: how many; the"
                + " first such row (of each FOLD: the least PLACE, then SIDE, then WAY).");
        row(marked(4, 1, 1, 2), 4, 0);
        row(marked(4, 0, 1, 1), 8, 4);
        row(marked(4, 1, 0, 1), 0, 1);
        row(marked(4, 1, 1, 1), 0, 1, 0);
        for (int kinds = 0; kinds < 81; kinds++) {
            enact(new int[] {kinds % 3, kinds / 3 % 3, kinds / 9 % 3, kinds / 27 % 3});
        }
    }

    /** Folds as it is told to, and looks at what comes of it. */
    private static void enact(int[] marks) {
        FoldDeeds x = Told.clothOf("cloth 5;person 0");
        Told.force(x, "price 0");
        for (int j = 0; j < marks.length; j++) {
            x.mark(j, marks[j]);
        }
        int many = x.folds(-1);
        for (int i = 0; i < many; i++) {
            int fold = x.folds(i);
            S.due("a FOLD of the row", x.fold(0, fold / 4, fold / 2 % 2, fold % 2), 0);
        }
        for (int j = 0; j < marks.length && many >= 0; j++) {
            S.due("JOINT " + j + " behind " + many + " FOLDS", x.joint(j, 0), marks[j]);
        }
    }

    private static void stacks() {
        S.test(19, "STACKS what NONE: how many, 0 to 7: the CELL in that LAYER of the first, 10 to 17: LAYERS of the"
                + " CELL less 10, as bits (-2: there is no stack, or no such LAYER, CELL).");
        int[] many = {2, 6, 16, 50, 144, 462, 1392};
        for (int cells = 2; cells <= 8; cells++) {
            FoldDeeds x = marked(cells);
            S.due("stacks(NONE) of " + cells, x.stacks(-1), many[cells - 2]);
            for (int i = 0; i < 8; i++) {
                S.due("stacks(" + i + ") of " + cells, x.stacks(i), i < cells ? i : -2);
                S.due("stacks(" + (10 + i) + ") of " + cells, x.stacks(10 + i), i < cells ? (1 << cells) - 1 : -2);
            }
        }

        S.test(19, "-3 for others, or without a CLOTH.");
        int[] none = {-2, 8, 9, 18, 19, MIN, MAX};
        for (int what : none) {
            S.due("stacks(" + what + ") of eight", marked(8).stacks(what), -3);
            S.due("stacks(" + what + ") of two", marked(2).stacks(what), -3);
        }
        for (int what = -2; what <= 18; what++) {
            S.due("stacks(" + what + ") without a CLOTH", new FoldDeeds().stacks(what), -3);
        }

        S.test(19, "STACKS: in how many ways all CELLS can lie in one stack on one PLACE, CELL 0 face up, each next CELL"
                + " turned over at its JOINT, no two JOINTS of one side across one another (JOINTS of even numbers"
                + " are on one side, of odd ones on the other;");
        for (int kinds = 0; kinds < 81; kinds++) {
            int[] row = {kinds % 3, kinds / 3 % 3, kinds / 9 % 3, kinds / 27 % 3};
            S.due("stacks(NONE) by MARKS " + row[0] + row[1] + row[2] + row[3], marked(5, row).stacks(-1), stacksOf(row));
        }

        S.test(19, "How many; the first (the CELL in LAYER 0, then 1, ..: least numbers first); LAYERS in which a CELL"
                + " can lie, as bits.");
        FoldDeeds x = marked(5, 1, 2, 0, 1);
        S.due("stacks(NONE): 01243 01432 04123 40123 43012", x.stacks(-1), 5);
        int[] least = {0, 1, 2, 4, 3};
        int[] bits = {1 + 2 + 4, 2 + 4 + 8, 4 + 8 + 16, 2 + 8 + 16, 1 + 2 + 4 + 8};
        for (int i = 0; i < 5; i++) {
            S.due("stacks(" + i + ")", x.stacks(i), least[i]);
            S.due("stacks(" + (10 + i) + ")", x.stacks(10 + i), bits[i]);
        }
        for (int cells = 2; cells <= 8; cells++) {
            Told.cloth(x, "cloth " + cells);
            S.due("stacks(NONE) of " + cells + " behind another CLOTH", x.stacks(-1), many[cells - 2]);
            S.due("richest(0) behind it", x.richest(0), Told.clothOf("cloth " + cells).richest(0));
            S.due("peek(1) behind it", x.peek(1), Told.clothOf("cloth " + cells).peek(1));
        }

        S.test(19, "two of one side are, if just one of the two CELLS of the one lies between the two of the other");
        x = marked(4, 1, 1, 1);
        S.due("stacks(NONE): not 0 2 1 3, not 2 0 3 1", x.stacks(-1), 3);
        int[] first = {0, 2, 3, 1};
        int[] layers = {1 + 2 + 4, 4 + 8, 1 + 2, 2 + 4 + 8};
        for (int i = 0; i < 4; i++) {
            S.due("stacks(" + i + ")", x.stacks(i), first[i]);
            S.due("stacks(" + (10 + i) + ")", x.stacks(10 + i), layers[i]);
        }

        S.test(19, "each JOINT of the kind of its MARK (0: any)");
        int[][] marks = {{0, 0, 6}, {1, 0, 3}, {2, 0, 3}, {0, 1, 3}, {0, 2, 3}, {1, 1, 2}, {1, 2, 1}, {2, 1, 1},
            {2, 2, 2}};
        for (int[] m : marks) {
            S.due("stacks(NONE) by MARKS " + m[0] + " and " + m[1], marked(3, m[0], m[1]).stacks(-1), m[2]);
        }
        x = marked(3, 1, 1);
        S.due("stacks(NONE)", x.stacks(-1), 2);
        x.mark(1, 0);
        S.due("stacks(NONE) when a MARK is 0 again", x.stacks(-1), 3);

        S.test(19, "a JOINT behind a CELL that lies face up is a valley, if the next CELL lies above it, else a hill;"
                + " behind one that lies face down it is a hill, if the next one lies above it, else a valley.");
        int[][] rows = {{1, 2, 0, 1, 2}, {2, 1, 2, 1, 0}, {1, 1, 0, 2, 1}, {2, 2, 1, 0, 2}};
        for (int[] r : rows) {
            x = marked(3, r[0], r[1]);
            for (int i = 0; i < 3; i++) {
                S.due("stacks(" + i + ") by MARKS " + r[0] + " and " + r[1], x.stacks(i), r[2 + i]);
            }
        }
    }

    /** Each order of five CELLS, looked at by itself. */
    private static int stacksOf(int[] marks) {
        int many = 0;
        for (int order = 0; order < 3125; order++) {
            int[] layer = {order % 5, order / 5 % 5, order / 25 % 5, order / 125 % 5, order / 625};
            if (allDiffer(layer) && fits(layer, marks) && !across(layer, 0, 2) && !across(layer, 1, 3)) {
                many++;
            }
        }
        return many;
    }

    private static boolean allDiffer(int[] layer) {
        int seen = 0;
        for (int at : layer) {
            seen |= 1 << at;
        }
        return seen == 31;
    }

    private static boolean fits(int[] layer, int[] marks) {
        for (int j = 0; j < marks.length; j++) {
            boolean valley = (layer[j + 1] > layer[j]) == (j % 2 == 0);
            if (marks[j] != 0 && marks[j] != (valley ? 1 : 2)) {
                return false;
            }
        }
        return true;
    }

    private static boolean across(int[] layer, int one, int other) {
        int low = Math.min(layer[one], layer[one + 1]);
        int high = Math.max(layer[one], layer[one + 1]);
        boolean first = layer[other] > low && layer[other] < high;
        boolean second = layer[other + 1] > low && layer[other + 1] < high;
        return first != second;
    }

    private static void peek() {
        S.test(20, "PEEK: the CELL by whose LAYER these part best (the most alike are fewest; of several the least);"
                + " how many.");
        int[][] asks = {{0, 0, 0, 2}, {1, 0, 2, 1}, {2, 0, 2, 1}, {0, 1, 0, 1}, {0, 2, 0, 1}, {1, 1, 0, 1},
            {1, 2, 0, 1}};
        for (int[] a : asks) {
            FoldDeeds x = marked(3, a[0], a[1]);
            S.due("peek(0) by MARKS " + a[0] + " and " + a[1], x.peek(0), a[2]);
            S.due("peek(1) by MARKS " + a[0] + " and " + a[1], x.peek(1), a[3]);
        }
        S.due("peek(0) of two CELLS", marked(2).peek(0), 0);
        S.due("peek(1) of two CELLS", marked(2).peek(1), 1);
        S.due("peek(0) by MARKS 1, 2, 0 and 1", marked(5, 1, 2, 0, 1).peek(0), 1);
        S.due("peek(1) by MARKS 1, 2, 0 and 1", marked(5, 1, 2, 0, 1).peek(1), 2);
        S.due("peek(0) of one stack", marked(4, 1, 2, 1).peek(0), 0);
        S.due("peek(1) of one stack", marked(4, 1, 2, 1).peek(1), 1);

        S.test(20, "PEEK what 0: the CELL, 1: how many; -2: there is no stack. NONE for others, or without a CLOTH.");
        int[] none = {-2, -1, 2, MIN, MAX};
        for (int what : none) {
            S.due("peek(" + what + ")", marked(3).peek(what), -1);
        }
        for (int what = -1; what <= 2; what++) {
            S.due("peek(" + what + ") without a CLOTH", new FoldDeeds().peek(what), -1);
        }
    }

    private static void richest() {
        S.test(21, "RICHEST: of all rows of kinds of all JOINTS (valley or hill; MARKS are not looked at) that by"
                + " which there are most STACKS; of several the least as bits of JOINTS that are hills; how many.");
        for (int cells = 2; cells <= 8; cells++) {
            int best = 0;
            int most = 0;
            for (int hills = 0; hills < 1 << (cells - 1); hills++) {
                int many = byHills(cells, hills).stacks(-1);
                best = many > most ? hills : best;
                most = Math.max(most, many);
            }
            FoldDeeds x = marked(cells, 2);
            S.due("richest(0) of " + cells, x.richest(0), most);
            S.due("richest(1) of " + cells, x.richest(1), best);
            S.due("richest(0) of " + cells + ", asked again", x.richest(0), most);
        }
        S.due("richest(0) of three", marked(3, 1, 2).richest(0), 2);
        S.due("richest(1) of three, of two rows", marked(3, 1, 2).richest(1), 0);
        S.due("richest(0) of four", marked(4).richest(0), 3);

        S.test(21, "RICHEST what 0: how many, 1: the hills, as bits. NONE for others, or without a CLOTH.");
        int[] none = {-2, -1, 2, MIN, MAX};
        for (int what : none) {
            S.due("richest(" + what + ")", marked(3).richest(what), -1);
        }
        for (int what = -1; what <= 2; what++) {
            S.due("richest(" + what + ") without a CLOTH", new FoldDeeds().richest(what), -1);
        }
    }

    private static FoldDeeds byHills(int cells, int hills) {
        FoldDeeds x = Told.clothOf("cloth " + cells);
        for (int j = 0; j < cells - 1; j++) {
            x.mark(j, 1 + (hills >> j & 1));
        }
        return x;
    }

    private static void owned(FoldDeeds x, int person, int cells, int... want) {
        S.due("own(" + person + ", " + cells + ", NONE)", x.own(person, cells, -1), want.length);
        for (int i = 0; i < 3; i++) {
            S.due("own(" + person + ", " + cells + ", " + i + ")", x.own(person, cells, i),
                    i < want.length ? want[i] : -2);
        }
    }

    private static void ownedByNone(FoldDeeds x, int person, int cells) {
        for (int what = -1; what < 3; what++) {
            S.due("own(" + person + ", " + cells + ", " + what + ")", x.own(person, cells, what), -2);
        }
    }

    private static void own() {
        S.test(22, "OWN for a PERSON a set of CELLS (none is no CELL)");
        FoldDeeds x = Told.clothOf("cloth 3;person 9;owner 1 0");
        for (int what = -2; what <= 3; what++) {
            S.due("own(0, 0, " + what + ")", x.own(0, 0, what), -3);
        }
        owned(x, 0, 2);
        owned(x, 0, 1, 2);
        owned(x, 0, 7, 0, 0);
        int[] none = {8, 9, 15, 128, 256, 1 << 30, -1, -8, MIN, MAX};
        for (int cells : none) {
            S.due("own(0, " + cells + ", NONE)", x.own(0, cells, -1), -3);
        }
        S.due("own(0, 255, NONE) of eight", Told.clothOf("cloth 8;person 99").own(0, 255, -1), 2);
        S.due("own(0, 256, NONE) of eight", Told.clothOf("cloth 8;person 99").own(0, 256, -1), -3);
        S.due("own(0, 3, NONE) of two", Told.clothOf("cloth 2;person 99").own(0, 3, -1), -2);
        S.due("own(0, 4, NONE) of two", Told.clothOf("cloth 2;person 99").own(0, 4, -1), -3);

        S.test(22, "the fewest FOLDS, as they could buy them one behind the other from now on, 3 at most, so that all"
                + " of these are theirs: how many; the first such row.");
        x = Told.clothOf("cloth 4;person 0;owner 0 0;owner 3 0");
        Told.force(x, "price 0 if day>=2;price 999");
        owned(x, 0, 9);
        owned(x, 0, 4, 2, 4, 0);
        owned(x, 0, 2, 2, 4, 2);
        ownedByNone(x, 0, 6);
        x = Told.clothOf("cloth 8;person 0;owner 0 0;owner 1 0;owner 6 0;owner 7 0");
        Told.force(x, "price 0 if day>=3;price 999");
        ownedByNone(x, 0, 16);
        x.fold(0, 0, 1, 0);
        owned(x, 0, 16, 2, 12, 0);
        owned(Told.clothOf("cloth 3;person 4"), 0, 7, 0, 0);
        owned(Told.clothOf("cloth 3;person 3"), 0, 7, 0, 0);
        ownedByNone(Told.clothOf("cloth 3;person 2"), 0, 7);
        owned(Told.clothOf("cloth 3;person 2"), 0, 6, 0);
        owned(Told.clothOf("cloth 3;person 1"), 0, 4, 4);
        ownedByNone(Told.clothOf("cloth 3;person 1"), 0, 6);
        owned(Told.clothOf("cloth 2;person 1;crease 0 1"), 0, 2, 0);
        owned(Told.clothOf("cloth 2;person 1;crease 0 2"), 0, 2, 1);
        x = Told.clothOf("cloth 4;person 9;person 9;crease 0 1;crease 2 1");
        x.fold(0, 1, 0, 0);
        owned(x, 0, 4 + 8);
        ownedByNone(x, 0, 1);
        ownedByNone(x, 1, 4);

        S.test(22, "OWN what NONE: how many, 0 to 2: the FOLD of that number, as in FOLDS (-2: so many there are not);"
                + " -2: by none. -3 without these.");
        x = Told.clothOf("cloth 3;person 9;person 0");
        owned(x, 0, 4, 0);
        ownedByNone(x, 1, 4);
        int[][] wrong = {{-1, 4, -1}, {2, 4, -1}, {MIN, 4, 0}, {MAX, 4, 0}, {0, 4, -2}, {0, 4, 3}, {0, 4, MIN},
            {0, 4, MAX}, {0, 8, 0}, {2, 4, 0}, {1, 4, 3}};
        for (int[] w : wrong) {
            S.due("own(" + w[0] + ", " + w[1] + ", " + w[2] + ")", x.own(w[0], w[1], w[2]), -3);
        }
        S.due("own without a PERSON", Told.clothOf("cloth 3").own(0, 1, -1), -3);
        S.due("own without a CLOTH", new FoldDeeds().own(0, 1, -1), -3);
        x = Told.clothOf("cloth 2;person 9");
        x.fold(0, 0, 0, 0);
        owned(x, 0, 2);
        ownedByNone(x, 0, 3);
    }

    private static void last() {
        S.test(23, "LAST: two FOLD by turns a CLOTH of the WIDTH that this one has now, creases and coins are not"
                + " looked at; who can't FOLD any more has lost: 1 if the one who is to FOLD wins, else 0; the least"
                + " PLACE with which they do.");
        int[] place = {-2, 0, -2, 0, 1, 2, -2, 0};
        FoldDeeds x = Told.clothOf("cloth 8;person 999");
        for (int width = 8; width >= 1; width--) {
            S.due("last(0) of WIDTH " + width, x.last(0), place[width - 1] < 0 ? 0 : 1);
            S.due("last(1) of WIDTH " + width, x.last(1), place[width - 1]);
            x.fold(0, 0, 1, 0);
        }
        for (int cells = 2; cells <= 8; cells++) {
            x = Told.clothOf("cloth " + cells + ";crease 0 2");
            S.due("last(1) of " + cells + " CELLS, without a PERSON", x.last(1), place[cells - 1]);
        }

        S.test(23, "LAST what 0: 1 or 0, 1: the PLACE (-2: none). NONE for others, or without a CLOTH.");
        int[] none = {-2, -1, 2, MIN, MAX};
        for (int what : none) {
            S.due("last(" + what + ")", Told.clothOf("cloth 4").last(what), -1);
        }
        for (int what = -1; what <= 2; what++) {
            S.due("last(" + what + ") without a CLOTH", new FoldDeeds().last(what), -1);
        }
    }

    private static void dearest() {
        S.test(24, "DEAREST: of all FOLDS that could be now for a PERSON (their PURSE not looked at) the one that COSTS"
                + " most; of several the least PLACE, then SIDE, then WAY; how much.");
        FoldDeeds x = Told.clothOf("cloth 3;person 0;person 0;owner 0 1;worth 0 5;worth 2 9");
        S.due("dearest(0, 0)", x.dearest(0, 0), 10);
        S.due("dearest(0, 1): PLACE 0, SIDE 0, over", x.dearest(0, 1), 0);
        x = Told.clothOf("cloth 3;person 0;crease 0 2;worth 2 9");
        S.due("dearest(0, 1): under", x.dearest(0, 1), 1);
        x = Told.clothOf("cloth 3;person 0;worth 0 9");
        S.due("dearest(0, 1): PLACE 1, SIDE 1", x.dearest(0, 1), 6);
        x = Told.clothOf("cloth 2;person 0");
        S.due("dearest(0, 1) of four alike", x.dearest(0, 1), 0);
        x = Told.clothOf("cloth 8;person 0;worth 0 99");
        Told.force(x, "price 0");
        S.due("dearest(0, 0) for nothing", x.dearest(0, 0), 0);
        S.due("dearest(0, 1) for nothing", x.dearest(0, 1), 0);
        Told.force(x, "price 3 if moved=1 and way=1 and cell=7");
        S.due("dearest(0, 0) of the last PLACE", x.dearest(0, 0), 3);
        S.due("dearest(0, 1) of the last PLACE", x.dearest(0, 1), 4 * 6 + 1);

        S.test(24, "DEAREST what 0: COST, 1: the FOLD, as in FOLDS; -2: none can be. NONE without these.");
        x = Told.clothOf("cloth 4;person 9;person 9;crease 0 1;crease 2 1");
        x.fold(0, 1, 0, 0);
        S.due("dearest(0, 0), two JOINTS at odds", x.dearest(0, 0), -2);
        S.due("dearest(1, 1), two JOINTS at odds", x.dearest(1, 1), -2);
        x = Told.clothOf("cloth 2;person 9;person 9");
        x.fold(0, 0, 0, 0);
        S.due("dearest(0, 0) of WIDTH 1", x.dearest(0, 0), -2);
        S.due("dearest(1, 1) of WIDTH 1", x.dearest(1, 1), -2);
        int[][] wrong = {{-1, 0}, {2, 0}, {MIN, 0}, {MAX, 0}, {0, -1}, {0, 2}, {1, MIN}, {1, MAX}, {2, 1}};
        for (int[] w : wrong) {
            S.due("dearest(" + w[0] + ", " + w[1] + ")", x.dearest(w[0], w[1]), -1);
        }
        S.due("dearest without a PERSON", Told.clothOf("cloth 3").dearest(0, 0), -1);
        S.due("dearest without a CLOTH", new FoldDeeds().dearest(0, 0), -1);
    }

    private static void log() {
        S.test(25, "A LOG (place NONE: there are none then, 0): how many");
        FoldDeeds x = Told.clothOf("cloth 3;person 9");
        for (int i = 1; i <= 10; i++) {
            S.due("log", x.log(0, 0, 0, 2), i);
            S.due("LOGS", x.count(8), i);
        }
        S.due("log(NONE, 0, 0, 0) of ten", x.log(-1, 0, 0, 0), 0);
        S.due("LOGS", x.count(8), 0);
        S.due("log(NONE, 0, 0, 0) of none", x.log(-1, 0, 0, 0), 0);
        S.due("log", x.log(0, 0, 0, 2), 1);
        S.due("log(NONE, 9, -9, 10000) of one", x.log(-1, 9, -9, 10000), 0);
        S.due("LOGS", x.count(8), 0);

        S.test(25, "LOGS 0 to 9, told: a FOLD (PLACE, SIDE, WAY) of the CLOTH as the text told it, it being open, by"
                + " PERSON 0 cost so much (0 to 9999).");
        int[] coins = {0, 1, 9998, 9999};
        for (int c : coins) {
            S.due("log(0, 0, 0, " + c + ")", Told.clothOf("cloth 3;person 9").log(0, 0, 0, c), 1);
        }
        x = Told.clothOf("cloth 4;person 50;person 50;owner 3 1;worth 3 7");
        x.fold(0, 1, 0, 0);
        x.fold(0, 0, 1, 0);
        S.due("WIDTH", x.count(2), 1);
        S.due("log(2, 0, 0, 7) of WIDTH 1", x.log(2, 0, 0, 7), 1);
        S.due("ruled(0): it cost PERSON 0 that, as the text told it", x.ruled(0), 1);
        Told.force(x, "price purse*2+day+layer-93");
        S.due("ruled(0): by 50 coins, DAY 0 and LAYER 0, too", x.ruled(0), 2);
        for (int fold = 0; fold < 12; fold++) {
            x = Told.clothOf("cloth 4;person 9;worth 0 20");
            Told.rule(x, "price 1000-cell-10*way-200*place");
            int cost = costOf(fold);
            x.log(fold / 4, fold / 2 % 2, fold % 2, cost);
            S.due("ruled(1) by the cost of FOLD " + fold, x.ruled(1), 0);
            x.log(fold / 4, fold / 2 % 2, fold % 2, cost + 1);
            S.due("ruled(1) by another cost of FOLD " + fold, x.ruled(1), -2);
        }

        S.test(25, "-2, and nothing happens, without these (PLACE 0 to CELLS less 2), without a PERSON, or if there are"
                + " 10.");
        int[][] wrong = {{-2, 0, 0, 0}, {4, 0, 0, 0}, {5, 0, 0, 0}, {MIN, 0, 0, 0}, {MAX, 0, 0, 0}, {0, -1, 0, 0},
            {0, 2, 0, 0}, {0, 0, -1, 0}, {0, 0, 2, 0}, {0, 0, 0, -1}, {0, 0, 0, 10000}, {0, 0, 0, MIN},
            {0, 0, 0, MAX}, {1 << 30, 0, 0, 0}};
        for (int[] w : wrong) {
            S.refused("log(" + w[0] + ", " + w[1] + ", " + w[2] + ", " + w[3] + ")",
                    o -> o.log(w[0], w[1], w[2], w[3]), -2);
        }
        S.due("log(3, 1, 1, 9999) of WIDTH 3 and five CELLS", Sentences.busy().log(3, 1, 1, 9999), 2);
        S.refused("log without a PERSON", o -> Told.cloth(o, "cloth 3"), o -> o.log(0, 0, 0, 0), -2);
        S.refused("log without a CLOTH", o -> { }, o -> o.log(0, 0, 0, 0), -2);
        S.refused("an eleventh", o -> { Sentences.busy(o); for (int i = 0; i < 9; i++) { o.log(0, 0, 0, i); } },
                o -> o.log(3, 0, 1, 3), -2);
        S.due("log(0, 0, 0, 0) of two CELLS", Told.clothOf("cloth 2;person 1").log(0, 0, 0, 0), 1);
        S.due("log(1, 0, 0, 0) of two CELLS", Told.clothOf("cloth 2;person 1").log(1, 0, 0, 0), -2);
        S.due("log(6, 0, 0, 0) of eight CELLS", Told.clothOf("cloth 8;person 1").log(6, 0, 0, 0), 1);
        S.due("log(7, 0, 0, 0) of eight CELLS", Told.clothOf("cloth 8;person 1").log(7, 0, 0, 0), -2);
    }

    /** By 'price 1000-cell-10*way-200*place' for one whose is no CELL. */
    private static int costOf(int fold) {
        int sum = 0;
        for (int c = 0; c < 4; c++) {
            if ((c > fold / 4) == (fold / 2 % 2 == 0)) {
                sum += Math.min(999, 1000 - c - 10 * (fold % 2) - 200 * c);
            }
        }
        return sum;
    }

    private static void ruled() {
        S.test(26, "RULED: which of the RULES, and of none, so that all LOGS are so (a FOLD that can't be but for the"
                + " PURSE makes none so): how many; the first (none ahead of 0, told as NONE).");
        FoldDeeds x = Told.clothOf("cloth 3;person 0;crease 1 1");
        S.due("ruled(0) without RULES and LOGS", x.ruled(0), 1);
        S.due("ruled(1) without RULES and LOGS", x.ruled(1), -1);
        for (int i = 0; i < 6; i++) {
            Told.rule(x, "price " + i);
            S.due("ruled(0) without LOGS", x.ruled(0), i + 2);
        }
        S.due("ruled(1) without LOGS", x.ruled(1), -1);
        x.log(0, 0, 0, 2);
        S.due("ruled(0): none, and RULE 1", x.ruled(0), 2);
        S.due("ruled(1): none", x.ruled(1), -1);
        int[][] asks = {{0, 1, 0}, {8, 1, 4}, {10, 1, 5}, {12, 0, -2}, {9, 0, -2}, {1, 0, -2}};
        for (int[] a : asks) {
            x.log(-1, 0, 0, 0);
            x.log(0, 0, 0, a[0]);
            S.due("ruled(0) by " + a[0] + " coins, the PURSE being 0", x.ruled(0), a[1]);
            S.due("ruled(1) by " + a[0] + " coins", x.ruled(1), a[2]);
        }
        x.log(-1, 0, 0, 0);
        x.log(0, 0, 0, 8);
        x.log(0, 1, 1, 4);
        S.due("ruled(1) by two LOGS", x.ruled(1), 4);
        x.log(0, 1, 0, 3);
        S.due("ruled(0) by LOGS at odds", x.ruled(0), 0);
        S.due("ruled(1) by LOGS at odds", x.ruled(1), -2);
        x.log(-1, 0, 0, 0);
        x.log(1, 0, 0, 1);
        S.due("ruled(0) of a FOLD that can be", x.ruled(0), 2);
        x.log(-1, 0, 0, 0);
        x.log(1, 0, 1, 1);
        S.due("ruled(0) of a FOLD that can't be", x.ruled(0), 0);
        S.due("ruled(1) of a FOLD that can't be", x.ruled(1), -2);
        x.log(-1, 0, 0, 0);
        x.log(1, 0, 1, 0);
        S.due("ruled(0) of a FOLD that can't be, for nothing", x.ruled(0), 0);

        S.test(26, "RULED what 0: how many, 1: the first (NONE: none; -2: there is none such). -3 for others, or"
                + " without a CLOTH.");
        int[] none = {-2, -1, 2, MIN, MAX};
        for (int what : none) {
            S.due("ruled(" + what + ")", x.ruled(what), -3);
        }
        FoldDeeds bare = new FoldDeeds();
        Told.rule(bare, "price 1");
        for (int what = -1; what <= 2; what++) {
            S.due("ruled(" + what + ") without a CLOTH", bare.ruled(what), -3);
        }
        S.due("ruled(0) without a PERSON", Told.clothOf("cloth 2").ruled(0), 1);
        S.due("ruled(1) without a PERSON", Told.clothOf("cloth 2").ruled(1), -1);
    }

    private static void looks(String rule, String rule2, int place, int alike) {
        FoldDeeds x = Told.clothOf("cloth 4;person 0");
        Told.rule(x, rule);
        if (!rule2.isEmpty()) {
            Told.rule(x, rule2);
        }
        S.due("look(0) by none and '" + rule + "' '" + rule2 + "'", x.look(0), place);
        S.due("look(1) by none and '" + rule + "' '" + rule2 + "'", x.look(1), alike);
    }

    private static void look() {
        S.test(27, "LOOK: the PLACE of a FOLD of SIDE 0, over, of that CLOTH by whose cost (or that it can't be) these"
                + " part best: the most alike are fewest, of several the least; how many.");
        looks("price worth", "", 0, 2);
        looks("price cell", "", 0, 1);
        looks("price 3 if cell=3", "", 1, 1);
        looks("price 5 if moved=1;price worth", "", 2, 1);
        looks("price worth", "price 3 if cell=3", 1, 2);
        looks("price 5 if moved=1;price worth", "price 3 if cell=3", 2, 1);
        looks("price worth+way", "", 0, 2);
        looks("price worth if cell>0", "", 0, 2);
        FoldDeeds x = Told.clothOf("cloth 3;person 9;crease 0 2");
        Told.rule(x, "price cell");
        S.due("look(0) past a FOLD that can't be", x.look(0), 1);
        S.due("look(1) past a FOLD that can't be", x.look(1), 1);
        x = Told.clothOf("cloth 3;person 9;crease 0 2;crease 1 2");
        Told.rule(x, "price cell");
        S.due("look(0), none can be", x.look(0), 0);
        S.due("look(1), none can be", x.look(1), 2);
        x.fold(0, 0, 0, 1);
        S.due("look(0) of the CLOTH as the text told it", x.look(0), 0);
        x = Told.clothOf("cloth 4;person 0");
        Told.rule(x, "price 2");
        Told.rule(x, "price 4 if cell=2;price 2 if cell=1");
        x.log(0, 0, 0, 6);
        S.due("look(0), none being not so", x.look(0), 2);
        S.due("look(1), none being not so", x.look(1), 1);
        x = Told.clothOf("cloth 4;person 0");
        for (int i = 0; i < 6; i++) {
            Told.rule(x, "price 3-cell/" + (i < 5 ? 3 : 2));
        }
        S.due("look(0) by six RULES", x.look(0), 0);
        S.due("look(1) by six RULES", x.look(1), 5);
        x = Told.clothOf("cloth 2;person 9");
        S.due("look(0) of two CELLS", x.look(0), 0);
        S.due("look(1) of two CELLS", x.look(1), 1);

        S.test(27, "LOOK what 0: the PLACE, 1: how many; -2: no RULE is so, or there is no PERSON. NONE for others, or"
                + " without a CLOTH.");
        x = Told.clothOf("cloth 4;person 0");
        Told.rule(x, "price cell");
        x.log(0, 0, 0, 6);
        S.due("look(0): one RULE is so", x.look(0), 0);
        S.due("look(1): one RULE is so", x.look(1), 1);
        x.log(0, 0, 0, 7);
        S.due("look(0): no RULE is so", x.look(0), -2);
        S.due("look(1): no RULE is so", x.look(1), -2);
        S.due("look(0): there is no PERSON", Told.clothOf("cloth 4").look(0), -2);
        S.due("look(1): there is no PERSON", Told.clothOf("cloth 4").look(1), -2);
        int[] none = {-2, -1, 2, MIN, MAX};
        for (int what : none) {
            S.due("look(" + what + "): no RULE is so", x.look(what), -1);
            S.due("look(" + what + "): there is no PERSON", Told.clothOf("cloth 4").look(what), -1);
        }
        for (int what = -1; what <= 2; what++) {
            S.due("look(" + what + ") without a CLOTH", new FoldDeeds().look(what), -1);
        }
    }

    public static void main(String[] args) {
        nothingChanges();
        folds();
        stacks();
        peek();
        richest();
        own();
        last();
        dearest();
        log();
        ruled();
        look();
        S.finish();
    }
}
