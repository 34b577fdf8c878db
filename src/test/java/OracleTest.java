import java.util.Random;

/** Drawn runs of calls, each answer compared with the oracle's. */
public final class OracleTest {
    private final Random random;
    private FoldDeeds x = new FoldDeeds();
    private Oracle y = new Oracle();
    private final StringBuilder told = new StringBuilder();
    private boolean wrong = false;
    static final long[] answered = new long[40];

    private OracleTest(long seed) {
        random = new Random(seed);
    }

    private int same(String call, int got, int due) {
        told.append(call).append(" = ").append(got).append('\n');
        if (got != due && !wrong) {
            wrong = true;
            told.append("  due is ").append(due).append('\n');
        }
        return got;
    }

    private int below(int n) {
        return random.nextInt(n);
    }

    /** Mostly a number below the bound, now and then one that is not. */
    private int near(int bound) {
        int r = below(40);
        if (r == 0) {
            return -1;
        }
        if (r == 1) {
            return bound;
        }
        if (r == 2) {
            return new int[] {Integer.MIN_VALUE, Integer.MAX_VALUE, -2, -3, 1 << 30, 1 << 29}[below(6)];
        }
        return bound > 0 ? below(bound) : below(3) - 1;
    }

    private void put(String text) {
        same("end(0)", x.end(0), y.end(0));
        for (int i = 0; i < text.length(); i += 20) {
            int[] n = new int[5];
            for (int k = 0; k < 20; k++) {
                int b = i + k < text.length() ? text.charAt(i + k) : below(256);
                n[k / 4] = n[k / 4] << 8 | b;
            }
            same("feed " + text.substring(i, Math.min(i + 20, text.length())),
                    x.feed(n[0], n[1], n[2], n[3], n[4]), y.feed(n));
        }
        int length = Math.min(text.length(), y.tape.length());
        same("end(" + length + ")", x.end(length), y.end(length));
    }

    private String blank() {
        return " ".repeat(below(8) == 0 ? below(3) : 1);
    }

    private String loose() {
        return below(5) == 0 ? " " : "";
    }

    private String clothText() {
        StringBuilder t = new StringBuilder();
        int cells = 2 + below(7);
        t.append(loose()).append("cloth").append(blank()).append(cells);
        int people = below(12) == 0 ? 0 : 1 + below(4);
        for (int i = 0; i < people; i++) {
            t.append(loose()).append(';').append(loose()).append("person").append(blank())
                    .append(new int[] {below(10), below(100), below(1000), 999}[below(4)]);
        }
        int more = below(below(10) == 0 ? 40 : 12);
        for (int i = 0; i < more; i++) {
            t.append(loose()).append(';').append(loose());
            int kind = below(5);
            if (kind <= 1 && people > 0) {
                t.append("owner ").append(below(cells)).append(blank()).append(' ').append(below(people));
            } else if (kind == 2 && below(2) == 0) {
                t.append("crease ").append(below(cells - 1)).append(' ').append(1 + below(2));
            } else {
                t.append("worth ").append(below(cells)).append(' ').append(below(below(2) == 0 ? 100 : 6));
            }
        }
        return t.toString();
    }

    private static final String[] WORDS = {"cell", "worth", "buyer", "owner", "layer", "place", "moved",
        "width", "way", "purse", "day"};

    private String value() {
        return below(2) == 0 ? WORDS[below(11)] : "" + below(new int[] {3, 10, 100, 100000}[below(4)]);
    }

    private String sum(int most) {
        StringBuilder t = new StringBuilder(value());
        for (int n = below(most); n > 0; n--) {
            t.append(loose()).append("+-*/%".charAt(below(5))).append(loose()).append(value());
        }
        return t.toString();
    }

    private String test(int depth) {
        StringBuilder t = new StringBuilder(fact(depth));
        for (int n = below(3); n > 0; n--) {
            t.append(below(2) == 0 ? " and " : " or ").append(fact(depth));
        }
        return t.toString();
    }

    private String fact(int depth) {
        int r = below(6);
        if (r == 0 && depth > 0) {
            return "not " + fact(depth - 1);
        }
        if (r <= 2 && depth > 0) {
            return "[" + loose() + test(depth - 1) + "]";
        }
        return sum(3) + loose() + new String[] {"<", "<=", "=", ">=", ">"}[below(5)] + loose() + sum(3);
    }

    private String ruleText() {
        StringBuilder t = new StringBuilder();
        int clauses = 1 + below(below(6) == 0 ? 13 : 3);
        for (int i = 0; i < clauses; i++) {
            if (i > 0) {
                t.append(loose()).append(';').append(loose());
            }
            t.append("price ").append(sum(below(10) == 0 ? 20 : 4));
            if (below(3) > 0) {
                t.append(" if ").append(test(below(12) == 0 ? 12 : 3));
            }
        }
        return t.length() > 400 ? "price worth" : t.toString();
    }

    private String spoiled(String text) {
        StringBuilder t = new StringBuilder(text);
        for (int n = 1 + below(2); n > 0 && t.length() > 0; n--) {
            int at = below(t.length());
            String alphabet = " ;[]<>=+-*/%0123456789abcdefnot,{Z" + (char) 0 + (char) 255;
            int r = below(4);
            if (r == 0) {
                t.deleteCharAt(at);
            } else if (r == 1) {
                t.setCharAt(at, alphabet.charAt(below(alphabet.length())));
            } else if (r == 2) {
                t.insert(at, alphabet.charAt(below(alphabet.length())));
            } else {
                t.setLength(at);
            }
        }
        return t.length() > 400 ? t.substring(0, 400) : t.toString();
    }

    private void tellCloth() {
        put(below(4) == 0 ? spoiled(clothText()) : clothText());
        same("cloth()", x.cloth(), y.cloth());
    }

    private void tellRule() {
        String text = ruleText();
        put(below(4) == 0 ? spoiled(text) : text);
        same("rule()", x.rule(), y.rule());
    }

    private void act() {
        int cells = y.count(0);
        int people = y.count(1);
        int width = y.count(2);
        int buyer = near(people);
        int p = near(width - 1);
        int s = near(2);
        int w = near(2);
        int r = below(20);
        if (r < 12) {
            same("fold(" + buyer + ", " + p + ", " + s + ", " + w + ")", x.fold(buyer, p, s, w), y.fold(buyer, p, s, w));
        } else if (r < 15) {
            same("open()", x.open(), y.open());
        } else if (r == 15) {
            int j = near(cells - 1);
            same("iron(" + j + ")", x.iron(j), y.iron(j));
        } else if (r == 16) {
            int c = near(cells);
            same("give(" + c + ", " + buyer + ")", x.give(c, buyer), y.give(c, buyer));
        } else {
            same("undo()", x.undo(), y.undo());
        }
    }

    private void tell() {
        int cells = y.count(0);
        int r = below(14);
        if (r < 5) {
            int j = near(cells - 1);
            int k = near(3);
            same("mark(" + j + ", " + k + ")", x.mark(j, k), y.mark(j, k));
        } else if (r < 7) {
            int f = below(3) == 0 ? -1 : near(y.count(3));
            same("force(" + f + ")", x.force(f), y.force(f));
        } else if (r < 10) {
            tellLog(cells);
        } else if (r == 10) {
            int n = below(8) == 0 ? -below(9) : random.nextInt() & Integer.MAX_VALUE;
            same("seed(" + n + ")", x.seed(n), y.seed(n));
        } else if (r < 13) {
            int k = near(4);
            same("image(" + k + ")", x.image(k), y.image(k));
        } else {
            int k = near(4);
            same("back(" + k + ")", x.back(k), y.back(k));
        }
    }

    private void tellLog(int cells) {
        int p = near(cells - 1);
        int s = near(2);
        int w = near(2);
        int coins = below(20) == 0 ? new int[] {-1, 9999, 10000}[below(3)] : below(12);
        if (y.world.told != null && y.people() > 0 && below(4) > 0 && y.hasFold(y.world.told, 0, p, s, w)) {
            coins = Oracle.Lie.total(y.world.told.bill(y.ruleOf(below(y.rules.size() + 1) - 1), 0, p, s, w));
        }
        same("log(" + p + ", " + s + ", " + w + ", " + coins + ")", x.log(p, s, w, coins), y.log(p, s, w, coins));
    }

    private void ask() {
        int cells = y.count(0);
        int people = y.count(1);
        int width = y.count(2);
        int a = near(people);
        int p = near(width - 1);
        int s = near(2);
        int w = near(2);
        switch (below(14)) {
            case 0 -> same("cost(" + a + ", " + p + ", " + s + ", " + w + ")", x.cost(a, p, s, w), y.cost(a, p, s, w));
            case 1, 2 -> {
                int what = below(9) - 1;
                same("folds(" + what + ")", x.folds(what), y.folds(what));
            }
            case 3, 4 -> {
                int what = below(21) - 2;
                same("stacks(" + what + ")", x.stacks(what), y.stacks(what));
            }
            case 5 -> same("peek(" + s + ")", x.peek(s), y.peek(s));
            case 6 -> same("richest(" + s + ")", x.richest(s), y.richest(s));
            case 7, 8 -> {
                int set = below(30) == 0 ? new int[] {-1, 1 << cells, 256, 0}[below(4)] : below(1 << cells);
                int what = below(5) - 1;
                if (cells < 8 || below(6) == 0) {
                    same("own(" + a + ", " + set + ", " + what + ")", x.own(a, set, what), y.own(a, set, what));
                }
            }
            case 9 -> same("last(" + s + ")", x.last(s), y.last(s));
            case 10 -> same("dearest(" + a + ", " + s + ")", x.dearest(a, s), y.dearest(a, s));
            case 11 -> same("ruled(" + s + ")", x.ruled(s), y.ruled(s));
            case 12 -> same("look(" + s + ")", x.look(s), y.look(s));
            default -> {
                int m = 1 + near(10);
                int n = 1 + near(30);
                same("days(" + m + ", " + n + ", " + s + ")", x.days(m, n, s), y.days(m, n, s));
            }
        }
    }

    /** All that lies open to be seen, so that a wrong state shows at once. */
    private void see() {
        for (int c = -1; c <= 8; c++) {
            for (int what = -1; what <= 5; what++) {
                same("cell(" + c + ", " + what + ")", x.cell(c, what), y.cell(c, what));
            }
            same("thick(" + c + ")", x.thick(c), y.thick(c));
            for (int what = -1; what <= 2; what++) {
                same("joint(" + c + ", " + what + ")", x.joint(c, what), y.joint(c, what));
                same("person(" + c + ", " + what + ")", x.person(c, what), y.person(c, what));
            }
        }
        for (int what = -1; what <= 12; what++) {
            same("count(" + what + ")", x.count(what), y.count(what));
        }
    }

    private boolean run(int calls) {
        for (int i = 0; i < calls && !wrong; i++) {
            int r = below(100);
            if (r < 4 || (i > 3 && y.count(0) == 0 && r < 40)) {
                tellCloth();
            } else if (r < 8) {
                tellRule();
            } else if (r < 50) {
                act();
            } else if (r < 70) {
                tell();
            } else {
                ask();
            }
            int shown = told.length();
            see();
            if (!wrong) {
                told.setLength(shown);
            }
        }
        return !wrong;
    }

    /** Texts alone, many of them. */
    private boolean texts(int many) {
        for (int i = 0; i < many && !wrong; i++) {
            if (i % 5 == 0) {
                x = new FoldDeeds();
                y = new Oracle();
                told.setLength(0);
            }
            boolean rule = below(2) == 0;
            String text = rule ? ruleText() : clothText();
            put(below(3) > 0 ? spoiled(text) : text);
            if (rule) {
                same("rule()", x.rule(), y.rule());
            } else {
                same("cloth()", x.cloth(), y.cloth());
            }
            see();
        }
        return !wrong;
    }

    public static void main(String[] args) {
        int runs = args.length > 0 ? Integer.parseInt(args[0]) : 400;
        int failed = 0;
        for (int i = 0; i < runs && failed < 3; i++) {
            OracleTest t = new OracleTest(1000 + i);
            boolean right = i % 4 == 3 ? t.texts(60) : t.run(300);
            if (!right) {
                failed++;
                System.out.println("drawn run " + i + ":\n" + t.told);
            }
        }
        if (failed > 0) {
            System.exit(1);
        }
        System.out.println(runs + " drawn runs are as the oracle tells");
    }
}
