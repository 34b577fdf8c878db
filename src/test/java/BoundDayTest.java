/** The bounds of promises 28 to 32: seed, days, count, image, back. */
public final class BoundDayTest {
    private static final Sentences S = new Sentences();
    private static final int MIN = Integer.MIN_VALUE;
    private static final int MAX = Integer.MAX_VALUE;
    private static final String MANY = "cloth 8;person 40;person 7;person 999;person 0;owner 0 1;owner 5 3;worth 3 9";
    private static final String FEW = "cloth 2;person 3";

    private static void seed() {
        S.test(28, "DRAWS: x (0 to 2147483647; 0 at first)");
        FoldDeeds x = new FoldDeeds();
        S.due("x", x.count(10), 0);
        int[] numbers = {0, 1, MAX - 1, MAX, 0};
        int was = 0;
        for (int n : numbers) {
            S.due("seed(" + n + ")", x.seed(n), was);
            S.due("x", x.count(10), n);
            was = n;
        }

        S.test(28, "x becomes a number: what it was; NONE, and nothing happens, below 0.");
        int[] below = {-1, -2, MIN, MIN + 1};
        for (int n : below) {
            S.refused("seed(" + n + ")", o -> o.seed(n), -1);
            S.refused("seed(" + n + ") without a CLOTH", o -> { }, o -> o.seed(n), -1);
        }
    }

    /** The DAYS drawn once more: each time on an object of its own, by calls of fold and open. */
    private static int[] enacted(String text, String rule, long start, int m, int n) {
        long x = start;
        int folds = 0;
        int coins = 0;
        for (int time = 0; time < m; time++) {
            FoldDeeds o = begun(text, rule);
            for (int i = 0; i < n; i++) {
                x = next(x);
                int buyer = (int) (x / 65536) % o.count(1);
                int width = o.count(2);
                if (width == 1) {
                    o.open();
                    continue;
                }
                x = next(x);
                int place = (int) (x / 65536) % (width - 1);
                x = next(x);
                int side = (int) (x / 65536) % 2;
                x = next(x);
                int paid = o.fold(buyer, place, side, (int) (x / 65536) % 2);
                folds += paid < 0 ? 0 : 1;
                coins += Math.max(0, paid);
            }
        }
        return new int[] {folds, coins};
    }

    private static long next(long x) {
        return (x * 1103515245L + 12345L) % 2147483648L;
    }

    private static FoldDeeds begun(String text, String rule) {
        FoldDeeds x = Told.clothOf(text);
        if (!rule.isEmpty()) {
            Told.force(x, rule);
        }
        x.fold(0, 0, 1, 0);
        return x;
    }

    private static void drawn(String text, String rule, int start) {
        FoldDeeds x = begun(text, rule);
        x.seed(start);
        int[][] asks = {{1, 1}, {1, 2}, {1, 29}, {1, 30}, {2, 1}, {9, 2}, {10, 1}, {10, 30}};
        for (int[] a : asks) {
            int[] want = enacted(text, rule, start, a[0], a[1]);
            String call = "days(" + a[0] + ", " + a[1] + ", ";
            S.due(call + "0) by x " + start + " of '" + text + "' '" + rule + "'", x.days(a[0], a[1], 0), want[0]);
            S.due(call + "1) by x " + start + " of '" + text + "' '" + rule + "'", x.days(a[0], a[1], 1), want[1]);
        }
        S.due("x as it was", x.count(10), start);
    }

    private static void days() {
        S.test(29, "becomes x * 1103515245 + 12345, of 2147483648 the rest; a DRAW is x / 65536.");
        int[] starts = {0, 1, 77, 12345, 1 << 30, MAX - 1, MAX};
        for (int start : starts) {
            drawn(MANY, "", start);
        }

        S.test(29, "DAYS m times (1 to 10) n FOLDS (1 to 30) from now on: of each a DRAW mod PEOPLE: who buys; then, if"
                + " WIDTH is 1, it is OPENED, else a DRAW mod WIDTH less 1: PLACE, a DRAW mod 2: SIDE, a DRAW mod 2:"
                + " WAY: it is FOLDED, if it can be: FOLDS that were; coins PAID for them, all together");
        for (int start : starts) {
            drawn(FEW, "", start);
            drawn(FEW, "price day", start);
            drawn(MANY, "price day+cell-layer if owner>=0;price purse/9", start);
            drawn("cloth 3;person 20;person 20;person 1;crease 1 2", "price 2*width", start);
        }

        S.test(29, "(without PEOPLE nothing is drawn; nothing stays; x as it was)");
        FoldDeeds x = Told.clothOf("cloth 5");
        x.seed(9);
        for (int what = 0; what <= 1; what++) {
            S.due("days(1, 1, " + what + ") without PEOPLE", x.days(1, 1, what), 0);
            S.due("days(10, 30, " + what + ") without PEOPLE", x.days(10, 30, what), 0);
        }
        S.due("x", x.count(10), 9);
        FoldDeeds y = Sentences.busy();
        y.days(1, 1, 0);
        y.days(10, 30, 1);
        S.alike("days", y, Sentences.busy());

        S.test(29, "DAYS what 0: FOLDS, 1: coins. NONE without these, or a CLOTH.");
        int[][] asks = {{1, 1, 0, 1}, {10, 1, 0, 10}, {0, 1, 0, -1}, {11, 1, 0, -1}, {-1, 1, 0, -1}, {MIN, 1, 0, -1},
            {MAX, 1, 0, -1}, {1, 0, 0, -1}, {1, 31, 0, -1}, {1, -1, 0, -1}, {1, MIN, 0, -1}, {1, MAX, 0, -1},
            {1, 1, -1, -1}, {1, 1, 2, -1}, {1, 1, MIN, -1}, {1, 1, MAX, -1}, {1, 30, 1, 0}, {10, 30, 1, 0}};
        x = Told.clothOf("cloth 2;person 5;owner 0 0;owner 1 0");
        for (int[] a : asks) {
            S.due("days(" + a[0] + ", " + a[1] + ", " + a[2] + ")", x.days(a[0], a[1], a[2]), a[3]);
        }
        for (int[] a : asks) {
            S.due("days without a CLOTH", new FoldDeeds().days(a[0], a[1], a[2]), -1);
        }
        x = Told.clothOf("cloth 5");
        S.due("days(0, 1, 0) without PEOPLE", x.days(0, 1, 0), -1);
        S.due("days(1, 31, 0) without PEOPLE", x.days(1, 31, 0), -1);
        S.due("days(1, 1, 2) without PEOPLE", x.days(1, 1, 2), -1);
    }

    private static void count() {
        S.test(30, "What 0: CELLS, 1: PEOPLE, 2: WIDTH, 3: RULES, 4: the RULE IN FORCE (NONE), 5: DAY, 6: JOINTS with a"
                + " crease, as bits, 7: CELLS that are nobody's, as bits, 8: LOGS, 9: ACTS that can be UNDONE, 10: x,"
                + " 11: bytes of the TAPE.");
        counts(new FoldDeeds(), 0, 0, 0, 0, -1, 0, 0, 0, 0, 0, 0, 0);
        counts(Sentences.busy(), 5, 2, 3, 2, 0, 2, 1 + 2 + 8, 0, 1, 4, 12345, 16);
        counts(Told.clothOf("cloth 2"), 2, 0, 2, 0, -1, 0, 0, 3, 0, 0, 0, 0);
        FoldDeeds x = Told.clothOf("cloth 8;person 1;person 1;person 1;person 1;owner 7 3");
        counts(x, 8, 4, 8, 0, -1, 0, 0, 127, 0, 0, 0, 0);
        for (int i = 0; i < 6; i++) {
            Told.rule(x, "price 0");
        }
        x.force(5);
        x.seed(MAX);
        for (int i = 0; i < 10; i++) {
            x.log(0, 0, 0, 0);
        }
        x.fold(0, 3, 0, 0);
        x.fold(0, 1, 1, 0);
        x.fold(0, 0, 0, 0);
        for (int i = 0; i < 18; i++) {
            x.give(7, 1 + i % 2);
        }
        for (int i = 0; i < 20; i++) {
            x.feed(0, 0, 0, 0, 0);
        }
        counts(x, 8, 4, 1, 6, 5, 3, 127, 4, 10, 20, MAX, 400);
        x.open();
        S.due("WIDTH", x.count(2), 8);
        S.due("creases", x.count(6), 127);

        S.test(30, "NONE for others.");
        int[] none = {-1, -2, 12, 13, MIN, MAX};
        for (int what : none) {
            S.due("count(" + what + ")", x.count(what), -1);
            S.due("count(" + what + ") of a new object", new FoldDeeds().count(what), -1);
        }
    }

    private static void counts(FoldDeeds x, int... want) {
        for (int what = 0; what < want.length; what++) {
            S.due("count(" + what + ")", x.count(what), want[what]);
        }
    }

    /** All that an IMAGE keeps is changed; the TAPE is as it was. */
    private static void changeAll(FoldDeeds x) {
        x.force(-1);
        x.seed(3);
        x.mark(0, 2);
        x.mark(3, 1);
        x.log(-1, 0, 0, 0);
        x.log(0, 1, 1, 8);
        x.open();
        x.iron(0);
        x.give(0, 1);
        x.fold(0, 2, 0, 1);
        x.undo();
        x.fold(1, 2, 1, 1);
        Told.cloth(x, "cloth 8;person 4;person 5;person 6;owner 0 2;worth 0 50;crease 6 1");
        x.fold(0, 6, 0, 0);
        Told.put(x, "cloth 3;person 7");
    }

    private static void image() {
        S.test(31, "IMAGES 0 to 3: all but the TAPE and the RULES, as it is (the RULE IN FORCE, MARKS, LOGS, too)");
        for (int k = 0; k <= 3; k++) {
            FoldDeeds x = Sentences.busy();
            FoldDeeds twin = Sentences.busy();
            S.due("image(" + k + ")", x.image(k), 2);
            twin.image(k);
            changeAll(x);
            S.due("back(" + k + ")", x.back(k), 2);
            twin.back(k);
            S.alike("back(" + k + ")", x, twin);
        }
        FoldDeeds x = Sentences.busy();
        x.image(1);
        Told.rule(x, "price 5");
        Told.put(x, "abc");
        x.back(1);
        S.due("RULES are not in it", x.count(3), 3);
        S.due("the TAPE is not in it", x.count(11), 3);
        x.image(1);
        x.force(2);
        x.image(3);
        x.back(1);
        S.due("the RULE IN FORCE of one", x.count(4), 0);
        x.back(3);
        S.due("the RULE IN FORCE of the other", x.count(4), 2);

        S.test(31, "An IMAGE is made: DAY; NONE without it.");
        int[] none = {-1, 4, 5, MIN, MAX};
        for (int k : none) {
            S.refused("image(" + k + ")", o -> o.image(k), -1);
            S.refused("image(" + k + ") without a CLOTH", o -> { }, o -> o.image(k), -1);
        }
        for (int k = 0; k <= 3; k++) {
            S.due("image(" + k + ") of a new object", new FoldDeeds().image(k), 0);
            S.due("image(" + k + ") of DAY 0", Told.clothOf(FEW).image(k), 0);
        }
        x = Told.clothOf(FEW);
        x.fold(0, 0, 0, 0);
        S.due("image(0) of DAY 1", x.image(0), 1);
        x.open();
        x.fold(0, 0, 0, 0);
        S.due("image(0) of DAY 2, in place of the other", x.image(0), 2);
        S.due("ACTS", x.count(9), 3);
        S.due("back(0)", x.back(0), 2);
    }

    private static void back() {
        S.test(32, "gone back to, it is as it was (these stay; nothing can be UNDONE then)");
        FoldDeeds x = Sentences.busy();
        S.due("ACTS ahead of it", x.count(9), 4);
        S.due("back(2)", x.back(2), 1);
        S.due("ACTS", x.count(9), 0);
        S.due("undo()", x.undo(), -1);
        S.due("DAY", x.count(5), 1);
        S.due("WIDTH", x.count(2), 5);
        S.due("a MARK told behind it", x.joint(1, 1), 0);
        for (int i = 0; i < 3; i++) {
            S.due("fold", x.fold(0, 0, 1, 0), 0);
            S.due("ACTS behind a FOLD", x.count(9), 1);
            S.due("back(0)", x.back(0), 0);
            S.due("whose CELL 1 is", x.cell(1, 3), 1);
            S.due("DAY", x.count(5), 0);
            S.due("back(2) again", x.back(2), 1);
            S.due("whose CELL 1 is", x.cell(1, 3), 0);
            S.due("ACTS", x.count(9), 0);
        }

        S.test(32, "All is as in an IMAGE: DAY; NONE, and nothing happens, if it was never made, or without it.");
        int[] never = {1, 3};
        for (int k : never) {
            S.refused("back(" + k + "), never made", o -> o.back(k), -1);
        }
        int[] none = {-1, 4, 5, MIN, MAX};
        for (int k : none) {
            S.refused("back(" + k + ")", o -> o.back(k), -1);
        }
        for (int k = -1; k <= 4; k++) {
            int asked = k;
            S.refused("back(" + k + ") of a new object", o -> { }, o -> o.back(asked), -1);
        }
        x = new FoldDeeds();
        S.due("image(3) without a CLOTH", x.image(3), 0);
        Told.cloth(x, FEW);
        x.fold(0, 0, 0, 0);
        S.due("back(3)", x.back(3), 0);
        counts(x, 0, 0, 0, 0, -1, 0, 0, 0, 0, 0, 0, 0);
        S.due("cell(0, 0)", x.cell(0, 0), -2);
        S.due("person(0, 0)", x.person(0, 0), -1);
        S.due("open()", x.open(), -1);
    }

    public static void main(String[] args) {
        seed();
        days();
        count();
        image();
        back();
        S.finish();
    }
}
