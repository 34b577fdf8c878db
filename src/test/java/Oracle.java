import java.math.BigInteger;
import java.util.ArrayList;
import java.util.Arrays;
import java.util.HashMap;
import java.util.LinkedHashMap;
import java.util.List;
import java.util.Map;
import java.util.function.LongPredicate;

/**
 * The document once more, written as differently from FoldDeeds as can be: piles of cells in lists,
 * tokens and trees, every search blind. Slow; the tests compare the two.
 */
final class Oracle {
    static final int NONE = -1;

    // ---------------------------------------------------------------- texts

    static final class Fault extends RuntimeException {
        final int code;

        Fault(int place, int kind) {
            super(null, null, false, false);
            code = 1 + 8 * place + kind;
        }
    }

    record Token(char type, String text, int place) {
    }

    static List<Token> tokens(String text) {
        List<Token> all = new ArrayList<>();
        int i = 0;
        while (i < text.length()) {
            int start = i;
            char c = text.charAt(i);
            if (c == ' ') {
                i++;
                continue;
            }
            char type = 's';
            if (c >= '0' && c <= '9') {
                type = 'n';
                while (i < text.length() && text.charAt(i) >= '0' && text.charAt(i) <= '9') {
                    i++;
                }
            } else if (c >= 'a' && c <= 'z') {
                type = 'w';
                while (i < text.length() && text.charAt(i) >= 'a' && text.charAt(i) <= 'z') {
                    i++;
                }
            } else if ((c == '<' || c == '>') && text.startsWith("=", i + 1)) {
                i += 2;
            } else {
                i++;
            }
            all.add(new Token(type, text.substring(start, i), start));
        }
        all.add(new Token('e', "", text.length()));
        return all;
    }

    interface Sum {
        long of(Map<String, Long> words);
    }

    interface Test {
        boolean of(Map<String, Long> words);
    }

    record Clause(Sum sum, Test test) {
    }

    static final class Parser {
        final List<Token> all;
        int at = 0;
        int items = 0;

        Parser(String text) {
            all = tokens(text);
        }

        Token now() {
            return all.get(at);
        }

        boolean is(String text) {
            return now().text.equals(text) && now().type != 'e';
        }

        Fault cannot() {
            return new Fault(now().place, 0);
        }

        void need(String text) {
            if (!is(text)) {
                throw cannot();
            }
            at++;
        }

        int number(int least, int most) {
            Token t = now();
            if (t.type != 'n') {
                throw cannot();
            }
            if (t.text.length() > 5 || Integer.parseInt(t.text) < least || Integer.parseInt(t.text) > most) {
                throw new Fault(t.place, 1);
            }
            at++;
            return Integer.parseInt(t.text);
        }

        List<Clause> rule() {
            List<Clause> clauses = new ArrayList<>();
            while (true) {
                Token first = now();
                need("price");
                if (clauses.size() == 12) {
                    throw new Fault(first.place, 4);
                }
                Sum sum = sum();
                Test test = w -> true;
                if (is("if")) {
                    at++;
                    test = test(0);
                }
                clauses.add(new Clause(sum, test));
                if (now().type == 'e') {
                    return clauses;
                }
                need(";");
            }
        }

        Test test(int depth) {
            Test left = part(depth);
            while (is("or")) {
                at++;
                Test a = left;
                Test b = part(depth);
                left = w -> a.of(w) || b.of(w);
            }
            return left;
        }

        Test part(int depth) {
            Test left = fact(depth);
            while (is("and")) {
                at++;
                Test a = left;
                Test b = fact(depth);
                left = w -> a.of(w) && b.of(w);
            }
            return left;
        }

        Test fact(int depth) {
            if (is("not") || is("[")) {
                boolean not = is("not");
                if (depth == 10) {
                    throw new Fault(now().place, 2);
                }
                at++;
                if (not) {
                    Test inner = fact(depth + 1);
                    return w -> !inner.of(w);
                }
                Test inner = test(depth + 1);
                need("]");
                return inner;
            }
            Sum a = sum();
            Token sign = now();
            if (sign.type != 's' || !List.of("<", "<=", "=", ">=", ">").contains(sign.text)) {
                throw cannot();
            }
            item();
            at++;
            Sum b = sum();
            Map<String, LongPredicate> by = new HashMap<>();
            by.put("<", d -> d < 0);
            by.put("<=", d -> d <= 0);
            by.put("=", d -> d == 0);
            by.put(">=", d -> d >= 0);
            by.put(">", d -> d > 0);
            LongPredicate holds = by.get(sign.text);
            return w -> holds.test(Long.compare(a.of(w), b.of(w)));
        }

        void item() {
            items++;
            if (items > 60) {
                throw new Fault(now().place, 3);
            }
        }

        Sum sum() {
            Sum left = term();
            while (is("+") || is("-")) {
                left = join(left, now().text, next(this::term));
            }
            return left;
        }

        Sum term() {
            Sum left = value();
            while (is("*") || is("/") || is("%")) {
                left = join(left, now().text, next(this::value));
            }
            return left;
        }

        Sum next(java.util.function.Supplier<Sum> reader) {
            at++;
            return reader.get();
        }

        static Sum join(Sum a, String sign, Sum b) {
            return w -> {
                BigInteger x = BigInteger.valueOf(a.of(w));
                BigInteger y = BigInteger.valueOf(b.of(w));
                boolean byZero = y.signum() == 0;
                BigInteger r = switch (sign) {
                    case "+" -> x.add(y);
                    case "-" -> x.subtract(y);
                    case "*" -> x.multiply(y);
                    case "/" -> byZero ? y : x.divide(y);
                    default -> byZero ? y : x.remainder(y);
                };
                return r.longValue();
            };
        }

        Sum value() {
            Token t = now();
            if (t.type == 'n') {
                if (t.text.length() > 5) {
                    throw new Fault(t.place, 1);
                }
                item();
                at++;
                long v = Long.parseLong(t.text);
                return w -> v;
            }
            if (t.type != 'w' || !List.of("cell", "worth", "buyer", "owner", "layer", "place", "moved",
                    "width", "way", "purse", "day").contains(t.text)) {
                throw cannot();
            }
            item();
            at++;
            return w -> w.get(t.text);
        }

        Lie cloth() {
            Lie lie = new Lie();
            for (int n = 0; ; n++) {
                Token first = now();
                if (!List.of("cloth", "person", "owner", "crease", "worth").contains(first.text)) {
                    throw cannot();
                }
                if (n == 40 || first.text.equals("cloth") != (n == 0)
                        || first.text.equals("person") && lie.purse.size() == 4) {
                    throw new Fault(first.place, 4);
                }
                at++;
                switch (first.text) {
                    case "cloth" -> lie.start(number(2, 8));
                    case "person" -> lie.purse.add(number(0, 999));
                    case "owner" -> lie.owner[number(0, lie.cells - 1)] = number(0, lie.purse.size() - 1);
                    case "crease" -> lie.crease[number(0, lie.cells - 2)] = number(1, 2);
                    default -> lie.worth[number(0, lie.cells - 1)] = number(0, 99);
                }
                if (now().type == 'e') {
                    return lie;
                }
                need(";");
            }
        }
    }

    // ---------------------------------------------------------------- the cloth

    /** A cell in a pile: a negative number less one when it lies face down. */
    static final class Lie {
        int cells;
        int day;
        int[] owner;
        int[] worth;
        int[] crease;
        List<Integer> purse = new ArrayList<>();
        List<List<Integer>> piles = new ArrayList<>();

        void start(int n) {
            cells = n;
            owner = new int[n];
            Arrays.fill(owner, NONE);
            worth = new int[n];
            Arrays.fill(worth, 1);
            crease = new int[n - 1];
            spread();
        }

        void spread() {
            piles = new ArrayList<>();
            for (int c = 0; c < cells; c++) {
                piles.add(new ArrayList<>(List.of(c)));
            }
        }

        Lie copy() {
            Lie o = new Lie();
            o.cells = cells;
            o.day = day;
            o.owner = owner.clone();
            o.worth = worth.clone();
            o.crease = crease.clone();
            o.purse = new ArrayList<>(purse);
            for (List<Integer> pile : piles) {
                o.piles.add(new ArrayList<>(pile));
            }
            return o;
        }

        static int number(int c) {
            return c < 0 ? -1 - c : c;
        }

        int width() {
            return piles.size();
        }

        int place(int cell) {
            for (int p = 0; p < piles.size(); p++) {
                if (piles.get(p).contains(cell) || piles.get(p).contains(-1 - cell)) {
                    return p;
                }
            }
            throw new IllegalStateException("cell " + cell + " lies nowhere");
        }

        boolean up(int cell) {
            return piles.get(place(cell)).contains(cell);
        }

        int layer(int cell) {
            return piles.get(place(cell)).indexOf(up(cell) ? cell : -1 - cell);
        }

        /** What each joint gets of a fold, 0 nothing; null if a crease forbids it. */
        int[] kinds(int p, int way) {
            int[] made = new int[cells - 1];
            for (int j = 0; j < cells - 1; j++) {
                int a = place(j);
                int b = place(j + 1);
                if (Math.min(a, b) == p && Math.max(a, b) == p + 1) {
                    if (up(j) != up(j + 1)) {
                        throw new IllegalStateException("cells of a joint that lies flat are not alike");
                    }
                    made[j] = way == 0 ? (up(j) ? 1 : 2) : (up(j) ? 2 : 1);
                    if (crease[j] != 0 && crease[j] != made[j]) {
                        return null;
                    }
                }
            }
            return made;
        }

        List<Integer> moved(int p, int side) {
            List<Integer> all = new ArrayList<>();
            for (int c = 0; c < cells; c++) {
                if (side == 0 ? place(c) > p : place(c) <= p) {
                    all.add(c);
                }
            }
            return all;
        }

        /** The cost of each cell; null if a crease forbids the fold. */
        Map<Integer, Integer> bill(List<Clause> rule, int buyer, int p, int side, int way) {
            if (kinds(p, way) == null) {
                return null;
            }
            Map<Integer, Integer> bill = new LinkedHashMap<>();
            List<Integer> moved = moved(p, side);
            for (int c : moved) {
                if (owner[c] == buyer) {
                    continue;
                }
                long v = worth[c];
                if (rule != null) {
                    Map<String, Long> w = new HashMap<>();
                    w.put("cell", (long) c);
                    w.put("worth", (long) worth[c]);
                    w.put("buyer", (long) buyer);
                    w.put("owner", (long) owner[c]);
                    w.put("layer", (long) layer(c));
                    w.put("place", (long) place(c));
                    w.put("moved", (long) moved.size());
                    w.put("width", (long) width());
                    w.put("way", (long) way);
                    w.put("purse", (long) purse.get(buyer));
                    w.put("day", (long) day);
                    v = 0;
                    for (Clause clause : rule) {
                        if (clause.test.of(w)) {
                            v = clause.sum.of(w);
                            break;
                        }
                    }
                    v = v < 0 ? 0 : v > 999 ? 999 : v;
                }
                bill.put(c, (int) v);
            }
            return bill;
        }

        static int total(Map<Integer, Integer> bill) {
            return bill == null ? -2 : bill.values().stream().mapToInt(i -> i).sum();
        }

        /** The cloth folded; it does not ask whether it can be. */
        void crumple(int p, int side, int way) {
            int[] made = kinds(p, way);
            for (int j = 0; j < cells - 1; j++) {
                if (made[j] != 0) {
                    crease[j] = made[j];
                }
            }
            Map<Integer, List<Integer>> on = new HashMap<>();
            for (int q = 0; q < width(); q++) {
                if (side == 0 ? q <= p : q > p) {
                    on.put(q, piles.get(q));
                }
            }
            for (int q = 0; q < width(); q++) {
                if (side == 0 ? q > p : q <= p) {
                    int to = p - (q - p - 1);
                    List<Integer> turned = new ArrayList<>();
                    for (int c : piles.get(q)) {
                        turned.add(0, -1 - c);
                    }
                    List<Integer> there = on.getOrDefault(to, new ArrayList<>());
                    List<Integer> all = new ArrayList<>(way == 0 ? there : turned);
                    all.addAll(way == 0 ? turned : there);
                    on.put(to, all);
                }
            }
            List<List<Integer>> anew = new ArrayList<>();
            on.keySet().stream().sorted().forEach(q -> anew.add(on.get(q)));
            piles = anew;
        }

        /** What was paid, NONE if it can't be. */
        int buy(List<Clause> rule, int buyer, int p, int side, int way) {
            Map<Integer, Integer> bill = bill(rule, buyer, p, side, way);
            int sum = total(bill);
            if (sum < 0 || sum > purse.get(buyer)) {
                return NONE;
            }
            purse.set(buyer, purse.get(buyer) - sum);
            for (Map.Entry<Integer, Integer> e : bill.entrySet()) {
                int seller = owner[e.getKey()];
                if (seller >= 0) {
                    purse.set(seller, Math.min(9999, purse.get(seller) + e.getValue()));
                }
            }
            for (int c : moved(p, side)) {
                owner[c] = buyer;
            }
            crumple(p, side, way);
            day = Math.min(9999, day + 1);
            return sum;
        }

        int bits(int who) {
            int b = 0;
            for (int c = 0; c < cells; c++) {
                b |= owner[c] == who ? 1 << c : 0;
            }
            return b;
        }
    }

    // ---------------------------------------------------------------- the state

    static final class World {
        Lie lie;
        Lie told;
        int[] marks = new int[8];
        List<int[]> logs = new ArrayList<>();
        int force = NONE;
        int x = 0;

        World copy() {
            World w = new World();
            w.lie = lie == null ? null : lie.copy();
            w.told = told == null ? null : told.copy();
            w.marks = marks.clone();
            w.logs = new ArrayList<>(logs);
            w.force = force;
            w.x = x;
            return w;
        }
    }

    String tape = "";
    final List<List<Clause>> rules = new ArrayList<>();
    World world = new World();
    final World[] images = new World[4];
    List<Lie> past = new ArrayList<>();

    List<Clause> ruleOf(int n) {
        return n < 0 ? null : rules.get(n);
    }

    int people() {
        return world.lie == null ? 0 : world.lie.purse.size();
    }

    boolean has(int value, int bound) {
        return value >= 0 && value < bound;
    }

    int feed(int... numbers) {
        if (tape.length() > 380) {
            return NONE;
        }
        for (int n : numbers) {
            for (byte b : java.nio.ByteBuffer.allocate(4).putInt(n).array()) {
                tape += (char) (b & 255);
            }
        }
        return tape.length();
    }

    int end(int n) {
        if (n < 0 || n > tape.length()) {
            return NONE;
        }
        tape = tape.substring(0, n);
        return n;
    }

    int cloth() {
        String text = tape;
        tape = "";
        try {
            Lie lie = new Parser(text).cloth();
            world.lie = lie;
            world.told = lie.copy();
            world.marks = new int[8];
            world.logs = new ArrayList<>();
            past = new ArrayList<>();
            return lie.cells;
        } catch (Fault f) {
            return -2 - f.code;
        }
    }

    int rule() {
        if (rules.size() == 6) {
            return NONE;
        }
        String text = tape;
        tape = "";
        try {
            rules.add(new Parser(text).rule());
            return rules.size() - 1;
        } catch (Fault f) {
            return -2 - f.code;
        }
    }

    int force(int r) {
        if (r != NONE && !has(r, rules.size())) {
            return -2;
        }
        int was = world.force;
        world.force = r;
        return was;
    }

    int cell(int c, int what) {
        if (world.lie == null || !has(c, world.lie.cells) || !has(what, 5)) {
            return -2;
        }
        Lie l = world.lie;
        return new int[] {l.place(c), l.layer(c), l.up(c) ? 1 : 0, l.owner[c], l.worth[c]}[what];
    }

    int joint(int j, int what) {
        if (world.lie == null || !has(j, world.lie.cells - 1) || !has(what, 2)) {
            return NONE;
        }
        return what == 0 ? world.lie.crease[j] : world.marks[j];
    }

    int person(int p, int what) {
        if (!has(p, people()) || !has(what, 2)) {
            return NONE;
        }
        return what == 0 ? world.lie.purse.get(p) : world.lie.bits(p);
    }

    int thick(int place) {
        return world.lie != null && has(place, world.lie.width()) ? world.lie.piles.get(place).size() : NONE;
    }

    boolean hasFold(Lie lie, int buyer, int p, int side, int way) {
        return lie != null && has(buyer, lie.purse.size()) && has(p, lie.width() - 1) && has(side, 2) && has(way, 2);
    }

    void keep(Lie lie) {
        past.add(lie);
        if (past.size() > 20) {
            past.remove(0);
        }
    }

    int fold(int buyer, int p, int side, int way) {
        if (!hasFold(world.lie, buyer, p, side, way)) {
            return NONE;
        }
        Lie was = world.lie.copy();
        int paid = world.lie.buy(ruleOf(world.force), buyer, p, side, way);
        if (paid != NONE) {
            keep(was);
        }
        return paid;
    }

    int open() {
        if (world.lie == null || world.lie.width() == world.lie.cells) {
            return NONE;
        }
        keep(world.lie.copy());
        int was = world.lie.width();
        world.lie.spread();
        return was;
    }

    int iron(int j) {
        if (world.lie == null || !has(j, world.lie.cells - 1) || world.lie.crease[j] == 0
                || world.lie.width() != world.lie.cells) {
            return NONE;
        }
        keep(world.lie.copy());
        int was = world.lie.crease[j];
        world.lie.crease[j] = 0;
        return was;
    }

    int give(int c, int p) {
        if (!has(p, people()) || !has(c, world.lie.cells) || world.lie.owner[c] < 0 || world.lie.owner[c] == p) {
            return NONE;
        }
        keep(world.lie.copy());
        int was = world.lie.owner[c];
        world.lie.owner[c] = p;
        return was;
    }

    int undo() {
        if (past.isEmpty()) {
            return NONE;
        }
        world.lie = past.remove(past.size() - 1);
        return past.size();
    }

    int cost(int buyer, int p, int side, int way) {
        if (!hasFold(world.lie, buyer, p, side, way)) {
            return NONE;
        }
        return Lie.total(world.lie.bill(ruleOf(world.force), buyer, p, side, way));
    }

    int mark(int j, int kind) {
        if (world.lie == null || !has(j, world.lie.cells - 1) || !has(kind, 3)) {
            return NONE;
        }
        int was = world.marks[j];
        world.marks[j] = kind;
        return was;
    }

    // ---------------------------------------------------------------- what is asked

    int tell(List<Integer> row, int what) {
        if (row == null) {
            return -2;
        }
        return what == NONE ? row.size() : what < row.size() ? row.get(what) : -2;
    }

    static final Map<String, List<Integer>> FOLD_ROWS = new HashMap<>();

    int folds(int what) {
        if (world.lie == null || what < NONE || what > 6) {
            return -3;
        }
        int n = world.lie.cells;
        int[] marks = Arrays.copyOf(world.marks, n - 1);
        String key = n + Arrays.toString(marks);
        if (!FOLD_ROWS.containsKey(key)) {
            Lie lie = new Lie();
            lie.start(n);
            List<Integer> row = null;
            for (int length = 0; length < n && row == null; length++) {
                row = rowTo(lie, marks, length);
            }
            FOLD_ROWS.put(key, row);
        }
        return tell(FOLD_ROWS.get(key), what);
    }

    static List<Integer> rowTo(Lie lie, int[] marks, int length) {
        if (length == 0) {
            return Arrays.equals(lie.crease, marks) ? new ArrayList<>() : null;
        }
        for (int f = 0; f < 4 * (lie.width() - 1); f++) {
            Lie next = lie.copy();
            next.crumple(f / 4, f / 2 % 2, f % 2);
            boolean wrong = false;
            for (int j = 0; j < marks.length; j++) {
                wrong |= next.crease[j] != 0 && next.crease[j] != marks[j];
            }
            List<Integer> rest = wrong ? null : rowTo(next, marks, length - 1);
            if (rest != null) {
                rest.add(0, f);
                return rest;
            }
        }
        return null;
    }

    static final Map<Integer, List<int[]>> ALL_STACKS = new HashMap<>();

    /** Each stack: the cell of layer 0, 1, ..; in their order. */
    static List<int[]> allStacks(int n) {
        return ALL_STACKS.computeIfAbsent(n, k -> {
            List<int[]> all = new ArrayList<>();
            permute(new int[k], 0, 0, all);
            return all;
        });
    }

    static void permute(int[] row, int used, int at, List<int[]> all) {
        if (at == row.length) {
            if (lies(row)) {
                all.add(row.clone());
            }
            return;
        }
        for (int c = 0; c < row.length; c++) {
            if ((used >> c & 1) == 0) {
                row[at] = c;
                permute(row, used | 1 << c, at + 1, all);
            }
        }
    }

    static int[] layers(int[] stack) {
        int[] layer = new int[stack.length];
        for (int l = 0; l < stack.length; l++) {
            layer[stack[l]] = l;
        }
        return layer;
    }

    static boolean between(int x, int a, int b) {
        return Math.min(a, b) < x && x < Math.max(a, b);
    }

    static boolean lies(int[] stack) {
        int[] l = layers(stack);
        for (int i = 0; i < stack.length - 1; i++) {
            for (int j = 0; j < stack.length - 1; j++) {
                if (i != j && i % 2 == j % 2
                        && between(l[j], l[i], l[i + 1]) != between(l[j + 1], l[i], l[i + 1])) {
                    return false;
                }
            }
        }
        return true;
    }

    static int kind(int[] layer, int j) {
        boolean above = layer[j + 1] > layer[j];
        if (j % 2 == 0) {
            return above ? 1 : 2;
        }
        return above ? 2 : 1;
    }

    List<int[]> markedStacks() {
        List<int[]> some = new ArrayList<>();
        for (int[] s : allStacks(world.lie.cells)) {
            int[] l = layers(s);
            boolean fits = true;
            for (int j = 0; j < s.length - 1; j++) {
                fits &= world.marks[j] == 0 || world.marks[j] == kind(l, j);
            }
            if (fits) {
                some.add(s);
            }
        }
        return some;
    }

    int stacks(int what) {
        if (world.lie == null || what < NONE || what > 17 || what == 8 || what == 9) {
            return -3;
        }
        List<int[]> some = markedStacks();
        if (what == NONE) {
            return some.size();
        }
        if (some.isEmpty() || what % 10 >= world.lie.cells) {
            return -2;
        }
        if (what < 10) {
            return some.get(0)[what];
        }
        int bits = 0;
        for (int[] s : some) {
            bits |= 1 << layers(s)[what - 10];
        }
        return bits;
    }

    static int biggest(List<Integer> values) {
        Map<Integer, Integer> times = new HashMap<>();
        int most = 0;
        for (int v : values) {
            most = Math.max(most, times.merge(v, 1, Integer::sum));
        }
        return most;
    }

    int peek(int what) {
        if (world.lie == null || !has(what, 2)) {
            return NONE;
        }
        int best = -1;
        int least = Integer.MAX_VALUE;
        for (int c = 0; c < world.lie.cells; c++) {
            List<Integer> at = new ArrayList<>();
            for (int[] s : markedStacks()) {
                at.add(layers(s)[c]);
            }
            if (biggest(at) < least) {
                least = biggest(at);
                best = c;
            }
        }
        return what == 0 ? best : least;
    }

    int richest(int what) {
        if (world.lie == null || !has(what, 2)) {
            return NONE;
        }
        int[] many = new int[128];
        for (int[] s : allStacks(world.lie.cells)) {
            int hills = 0;
            for (int j = 0; j < s.length - 1; j++) {
                hills |= kind(layers(s), j) == 2 ? 1 << j : 0;
            }
            many[hills]++;
        }
        int best = 0;
        for (int h = 0; h < 128; h++) {
            best = many[h] > many[best] ? h : best;
        }
        return what == 0 ? many[best] : best;
    }

    int own(int person, int cells, int what) {
        if (!has(person, people()) || cells <= 0 || cells >> world.lie.cells != 0 || what < NONE || what > 2) {
            return -3;
        }
        List<Integer> row = null;
        for (int length = 0; length <= 3 && row == null; length++) {
            row = ownBy(world.lie, person, cells, length);
        }
        return tell(row, what);
    }

    List<Integer> ownBy(Lie lie, int person, int cells, int length) {
        if (length == 0) {
            return (lie.bits(person) & cells) == cells ? new ArrayList<>() : null;
        }
        for (int f = 0; f < 4 * (lie.width() - 1); f++) {
            Lie next = lie.copy();
            if (next.buy(ruleOf(world.force), person, f / 4, f / 2 % 2, f % 2) != NONE) {
                List<Integer> rest = ownBy(next, person, cells, length - 1);
                if (rest != null) {
                    rest.add(0, f);
                    return rest;
                }
            }
        }
        return null;
    }

    static int winner(int width) {
        for (int p = 0; p <= width - 2; p++) {
            if (winner(Math.max(p + 1, width - p - 1)) < 0) {
                return p;
            }
        }
        return -2;
    }

    int last(int what) {
        if (world.lie == null || !has(what, 2)) {
            return NONE;
        }
        int p = winner(world.lie.width());
        return what == 1 ? p : p < 0 ? 0 : 1;
    }

    int dearest(int person, int what) {
        if (!has(person, people()) || !has(what, 2)) {
            return NONE;
        }
        int best = -2;
        int most = -2;
        for (int p = 0; p < world.lie.width() - 1; p++) {
            for (int side = 0; side < 2; side++) {
                for (int way = 0; way < 2; way++) {
                    int c = cost(person, p, side, way);
                    if (c > most) {
                        most = c;
                        best = 4 * p + 2 * side + way;
                    }
                }
            }
        }
        return what == 0 ? most : best;
    }

    int log(int p, int side, int way, int coins) {
        if (p == NONE) {
            world.logs.clear();
            return 0;
        }
        if (!hasFold(world.told, 0, p, side, way) || coins < 0 || coins > 9999 || world.logs.size() == 10) {
            return -2;
        }
        world.logs.add(new int[] {p, side, way, coins});
        return world.logs.size();
    }

    List<Integer> so() {
        List<Integer> all = new ArrayList<>();
        for (int r = NONE; r < rules.size(); r++) {
            boolean fits = true;
            for (int[] l : world.logs) {
                fits &= Lie.total(world.told.bill(ruleOf(r), 0, l[0], l[1], l[2])) == l[3];
            }
            if (fits) {
                all.add(r);
            }
        }
        return all;
    }

    int ruled(int what) {
        if (world.lie == null || !has(what, 2)) {
            return -3;
        }
        return what == 0 ? so().size() : so().isEmpty() ? -2 : so().get(0);
    }

    int look(int what) {
        if (world.lie == null || !has(what, 2)) {
            return NONE;
        }
        List<Integer> so = so();
        if (so.isEmpty() || people() == 0) {
            return -2;
        }
        int best = -1;
        int least = Integer.MAX_VALUE;
        for (int p = 0; p < world.told.cells - 1; p++) {
            List<Integer> costs = new ArrayList<>();
            for (int r : so) {
                costs.add(Lie.total(world.told.bill(ruleOf(r), 0, p, 0, 0)));
            }
            if (biggest(costs) < least) {
                least = biggest(costs);
                best = p;
            }
        }
        return what == 0 ? best : least;
    }

    int seed(int x) {
        if (x < 0) {
            return NONE;
        }
        int was = world.x;
        world.x = x;
        return was;
    }

    BigInteger drawn;

    int draw() {
        drawn = drawn.multiply(BigInteger.valueOf(1103515245)).add(BigInteger.valueOf(12345))
                .mod(BigInteger.valueOf(2147483648L));
        return drawn.intValueExact() / 65536;
    }

    int days(int m, int n, int what) {
        if (world.lie == null || m < 1 || m > 10 || n < 1 || n > 30 || !has(what, 2)) {
            return NONE;
        }
        int folds = 0;
        int coins = 0;
        drawn = BigInteger.valueOf(world.x);
        for (int i = 0; i < m && people() > 0; i++) {
            Lie lie = world.lie.copy();
            for (int k = 0; k < n; k++) {
                int buyer = draw() % people();
                if (lie.width() == 1) {
                    lie.spread();
                    continue;
                }
                int p = draw() % (lie.width() - 1);
                int side = draw() % 2;
                int way = draw() % 2;
                int paid = lie.buy(ruleOf(world.force), buyer, p, side, way);
                if (paid != NONE) {
                    folds++;
                    coins += paid;
                }
            }
        }
        return what == 0 ? folds : coins;
    }

    int count(int what) {
        Lie l = world.lie;
        if (!has(what, 12)) {
            return NONE;
        }
        int creased = 0;
        for (int j = 0; l != null && j < l.cells - 1; j++) {
            creased |= l.crease[j] != 0 ? 1 << j : 0;
        }
        return new int[] {l == null ? 0 : l.cells, people(), l == null ? 0 : l.width(), rules.size(),
            world.force, l == null ? 0 : l.day, creased, l == null ? 0 : l.bits(NONE), world.logs.size(),
            past.size(), world.x, tape.length()}[what];
    }

    int image(int k) {
        if (!has(k, 4)) {
            return NONE;
        }
        images[k] = world.copy();
        return count(5);
    }

    int back(int k) {
        if (!has(k, 4) || images[k] == null) {
            return NONE;
        }
        world = images[k].copy();
        past = new ArrayList<>();
        return count(5);
    }
}
