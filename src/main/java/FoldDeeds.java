/**
 * A strip of cloth whose creases are deeds: who folds it buys what moves.
 * README.md tells how the class is used; the document's promises are its face.
 */
public final class FoldDeeds {
    public static final int NONE = -1;

    /** Answers beside NONE, where the document keeps NONE for something else. */
    private static final int CANNOT = -2;
    private static final int UNASKED = -3;

    private static final int MOST_CELLS = 8;
    private static final int MOST_PEOPLE = 4;
    private static final int MOST_RULES = 6;
    private static final int MOST_LOGS = 10;
    private static final int MOST_IMAGES = 4;
    private static final int MOST_UNDONE = 20;
    private static final int MOST_COINS = 9999;
    private static final int MOST_PRICE = 999;
    private static final int MOST_DAY = 9999;
    private static final int MOST_TIMES = 10;
    private static final int MOST_DRAWN = 30;
    private static final int OWN_FOLDS = 3;

    private static final int TAPE_BYTES = 400;
    private static final int FEED_BYTES = 20;
    private static final int CLOTH_CLAUSES = 40;
    private static final int RULE_CLAUSES = 12;
    private static final int RULE_DEPTH = 10;
    private static final int RULE_ITEMS = 60;
    private static final int NUMBER_DIGITS = 5;
    private static final int MOST_NUMBER = 99999;

    private static final int FAULT_SIGN = 0;
    private static final int FAULT_NUMBER = 1;
    private static final int FAULT_DEPTH = 2;
    private static final int FAULT_ITEMS = 3;
    private static final int FAULT_CLAUSE = 4;

    private static final int VALLEY = 1;
    private static final int HILL = 2;

    /** Each word of a list has a blank behind it; its number is how many stand ahead of it. */
    private static final String CLOTH_WORDS = "cloth person owner crease worth ";
    private static final int CLAUSE_CLOTH = 0;
    private static final int CLAUSE_PERSON = 1;
    private static final int CLAUSE_OWNER = 2;
    private static final int CLAUSE_CREASE = 3;

    private static final String PRICE_WORD = "price ";
    private static final String IF_WORD = "if ";
    private static final String OR_WORD = "or ";
    private static final String AND_WORD = "and ";
    private static final String NOT_WORD = "not ";

    private static final String VALUE_WORDS =
            "cell worth buyer owner layer place moved width way purse day ";
    private static final int WORD_CELL = 0;
    private static final int WORD_WORTH = 1;
    private static final int WORD_BUYER = 2;
    private static final int WORD_OWNER = 3;
    private static final int WORD_LAYER = 4;
    private static final int WORD_PLACE = 5;
    private static final int WORD_MOVED = 6;
    private static final int WORD_WIDTH = 7;
    private static final int WORD_WAY = 8;
    private static final int WORD_PURSE = 9;
    private static final int WORD_DAY = 10;
    private static final int VALUE_WORD_COUNT = 11;

    /** A step of a rule: one of these, and in the bits above OP_BITS a number or a word's number. */
    private static final int OP_NUMBER = 0;
    private static final int OP_WORD = 1;
    private static final int OP_NOT = 2;
    private static final int OP_TAKE = 3;
    private static final int OP_CHOOSE = 4;
    private static final int OP_ADD = 5;
    private static final int OP_SUBTRACT = 6;
    private static final int OP_MULTIPLY = 7;
    private static final int OP_DIVIDE = 8;
    private static final int OP_REST = 9;
    private static final int OP_LESS = 10;
    private static final int OP_LESS_OR_EQUAL = 11;
    private static final int OP_EQUAL = 12;
    private static final int OP_MORE_OR_EQUAL = 13;
    private static final int OP_MORE = 14;
    private static final int OP_AND = 15;
    private static final int OP_OR = 16;
    private static final int OP_BITS = 5;
    private static final int OP_MASK = 31;

    /** The clause's sum, two open joins for each of eleven tests within one another, and a fact's four. */
    private static final int STACK_ROOM = 32;

    /** Of the strip of eight there are 1392 stacks, of a shorter one fewer. */
    private static final int MOST_STACKS = 1392;
    private static final int MORE_THAN_ANY = 2147483647;
    private static final int KIND_BITS = 7;
    private static final int KIND_ROWS = 128;

    private final Text tape = new Text();
    private final ClothReader clothReader = new ClothReader();
    private final RuleReader ruleReader = new RuleReader();
    private final Rule[] rules = new Rule[MOST_RULES];
    private int ruleCount = 0;
    private final Sheet sheet = new Sheet();
    private final Sheet[] images = new Sheet[MOST_IMAGES];
    private final Past past = new Past();
    private final Market market = new Market();
    private final FoldSearch search = new FoldSearch();
    private final StackBook book = new StackBook();
    private final Trial trial = new Trial();
    /** Of none (0) and of each rule (1 more than its number): whether all logs are so. */
    private final boolean[] so = new boolean[MOST_RULES + 1];
    private final int[] costs = new int[MOST_RULES + 1];

    public FoldDeeds() {
    }

    public int feed(int a, int b, int c, int d, int e) {
        if (tape.size > TAPE_BYTES - FEED_BYTES) {
            return NONE;
        }
        tape.append(a);
        tape.append(b);
        tape.append(c);
        tape.append(d);
        tape.append(e);
        return tape.size;
    }

    public int end(int n) {
        if (n < 0 || n > tape.size) {
            return NONE;
        }
        tape.size = n;
        return n;
    }

    public int cloth() {
        int fault = clothReader.read(tape);
        tape.size = 0;
        if (fault != 0) {
            return -2 - fault;
        }
        sheet.begin(clothReader.draft);
        past.forget();
        return sheet.now.cells;
    }

    public int rule() {
        if (ruleCount >= MOST_RULES) {
            return NONE;
        }
        int fault = ruleReader.read(tape);
        tape.size = 0;
        if (fault != 0) {
            return -2 - fault;
        }
        rules[ruleCount] = ruleReader.made();
        ruleCount++;
        return ruleCount - 1;
    }

    public int force(int rule) {
        if (rule < NONE || rule >= ruleCount) {
            return CANNOT;
        }
        int was = sheet.force;
        sheet.force = rule;
        return was;
    }

    public int cell(int cell, int what) {
        Cloth now = sheet.now;
        if (!now.hasCell(cell)) {
            return CANNOT;
        }
        switch (what) {
            case 0:
                return now.place[cell];
            case 1:
                return now.layer[cell];
            case 2:
                return now.up[cell];
            case 3:
                return now.owner[cell];
            case 4:
                return now.worth[cell];
            default:
                return CANNOT;
        }
    }

    public int joint(int joint, int what) {
        if (!sheet.now.hasJoint(joint)) {
            return NONE;
        }
        if (what == 0) {
            return sheet.now.crease[joint];
        }
        return what == 1 ? sheet.marks[joint] : NONE;
    }

    public int person(int person, int what) {
        if (!sheet.now.hasPerson(person)) {
            return NONE;
        }
        if (what == 0) {
            return sheet.now.purse[person];
        }
        return what == 1 ? sheet.now.cellsOf(person) : NONE;
    }

    public int thick(int place) {
        if (place < 0 || place >= sheet.now.width) {
            return NONE;
        }
        return sheet.now.thickness[place];
    }

    public int fold(int buyer, int place, int side, int way) {
        Cloth now = sheet.now;
        if (!now.hasPerson(buyer) || !now.hasFold(place, side, way)) {
            return NONE;
        }
        int fold = 4 * place + 2 * side + way;
        int paid = market.quote(now, ruleInForce(), buyer, fold);
        if (paid == CANNOT || paid > now.purse[buyer]) {
            return NONE;
        }
        past.keep(now);
        market.settle(now, buyer, fold);
        return paid;
    }

    public int open() {
        Cloth now = sheet.now;
        if (now.liesOpen()) {
            return NONE;
        }
        int was = now.width;
        past.keep(now);
        now.layOpen();
        return was;
    }

    public int iron(int joint) {
        Cloth now = sheet.now;
        if (!now.hasJoint(joint) || !now.liesOpen() || now.crease[joint] == 0) {
            return NONE;
        }
        int was = now.crease[joint];
        past.keep(now);
        now.crease[joint] = 0;
        return was;
    }

    public int give(int cell, int person) {
        Cloth now = sheet.now;
        if (!now.hasCell(cell) || !now.hasPerson(person)) {
            return NONE;
        }
        int was = now.owner[cell];
        if (was == NONE || was == person) {
            return NONE;
        }
        past.keep(now);
        now.owner[cell] = person;
        return was;
    }

    public int undo() {
        if (past.size == 0) {
            return NONE;
        }
        past.bringBack(sheet.now);
        return past.size;
    }

    public int cost(int buyer, int place, int side, int way) {
        Cloth now = sheet.now;
        if (!now.hasPerson(buyer) || !now.hasFold(place, side, way)) {
            return NONE;
        }
        return market.quote(now, ruleInForce(), buyer, 4 * place + 2 * side + way);
    }

    public int mark(int joint, int kind) {
        if (!sheet.now.hasJoint(joint) || kind < 0 || kind > HILL) {
            return NONE;
        }
        int was = sheet.marks[joint];
        sheet.marks[joint] = kind;
        return was;
    }

    public int folds(int what) {
        if (what < NONE || what > MOST_CELLS - 2 || sheet.now.cells == 0) {
            return UNASKED;
        }
        search.seekMarks(sheet.now.cells, sheet.marks);
        return search.answer(what);
    }

    public int stacks(int what) {
        int cells = sheet.now.cells;
        boolean ofLayer = what >= 0 && what < MOST_CELLS;
        boolean ofCell = what >= 10 && what < 10 + MOST_CELLS;
        if (cells == 0 || (what != NONE && !ofLayer && !ofCell)) {
            return UNASKED;
        }
        book.choose(cells, sheet.marks);
        if (what == NONE) {
            return book.chosen;
        }
        if (book.chosen == 0 || (ofLayer ? what : what - 10) >= cells) {
            return CANNOT;
        }
        return ofLayer ? book.firstAt(what) : book.layersOf(what - 10);
    }

    public int peek(int what) {
        if (what < 0 || what > 1 || sheet.now.cells == 0) {
            return NONE;
        }
        book.choose(sheet.now.cells, sheet.marks);
        if (book.chosen == 0) {
            return CANNOT;
        }
        int cell = book.bestCell();
        return what == 0 ? cell : book.mostAlike(cell);
    }

    public int richest(int what) {
        if (what < 0 || what > 1 || sheet.now.cells == 0) {
            return NONE;
        }
        int hills = book.richestHills(sheet.now.cells);
        return what == 0 ? book.countOf(hills) : hills;
    }

    public int own(int person, int cells, int what) {
        Cloth now = sheet.now;
        if (!now.hasPerson(person) || cells < 1 || cells >= 1 << now.cells
                || what < NONE || what >= OWN_FOLDS) {
            return UNASKED;
        }
        search.seekOwned(market, ruleInForce(), now, person, cells);
        return search.answer(what);
    }

    public int last(int what) {
        if (what < 0 || what > 1 || sheet.now.cells == 0) {
            return NONE;
        }
        int place = winningPlace(sheet.now.width);
        if (what == 1) {
            return place == NONE ? CANNOT : place;
        }
        return place == NONE ? 0 : 1;
    }

    public int dearest(int person, int what) {
        Cloth now = sheet.now;
        if (!now.hasPerson(person) || what < 0 || what > 1) {
            return NONE;
        }
        int most = CANNOT;
        int dearestFold = CANNOT;
        int many = now.foldCount();
        for (int fold = 0; fold < many; fold++) {
            int coins = market.quote(now, ruleInForce(), person, fold);
            if (coins > most) {
                most = coins;
                dearestFold = fold;
            }
        }
        return what == 0 ? most : dearestFold;
    }

    public int log(int place, int side, int way, int coins) {
        if (place == NONE) {
            sheet.logCount = 0;
            return 0;
        }
        Cloth told = sheet.told;
        if (!told.hasPerson(0) || !told.hasFold(place, side, way)
                || coins < 0 || coins > MOST_COINS || sheet.logCount >= MOST_LOGS) {
            return CANNOT;
        }
        sheet.logFold[sheet.logCount] = 4 * place + 2 * side + way;
        sheet.logCoins[sheet.logCount] = coins;
        sheet.logCount++;
        return sheet.logCount;
    }

    public int ruled(int what) {
        if (what < 0 || what > 1 || sheet.now.cells == 0) {
            return UNASKED;
        }
        int many = findSo();
        if (what == 0) {
            return many;
        }
        for (int i = 0; i <= ruleCount && i < so.length; i++) {
            if (so[i]) {
                return i - 1;
            }
        }
        return CANNOT;
    }

    public int look(int what) {
        if (what < 0 || what > 1 || sheet.now.cells == 0) {
            return NONE;
        }
        if (!sheet.told.hasPerson(0) || findSo() == 0) {
            return CANNOT;
        }
        int best = 0;
        int fewest = alikeAt(0);
        for (int place = 1; place < sheet.told.width - 1; place++) {
            int alike = alikeAt(place);
            if (alike < fewest) {
                fewest = alike;
                best = place;
            }
        }
        return what == 0 ? best : fewest;
    }

    public int seed(int x) {
        if (x < 0) {
            return NONE;
        }
        int was = sheet.x;
        sheet.x = x;
        return was;
    }

    public int days(int m, int n, int what) {
        if (m < 1 || m > MOST_TIMES || n < 1 || n > MOST_DRAWN
                || what < 0 || what > 1 || sheet.now.cells == 0) {
            return NONE;
        }
        trial.begin(sheet.x);
        for (int i = 0; i < m; i++) {
            trial.run(market, ruleInForce(), sheet.now, n);
        }
        return what == 0 ? trial.foldsMade : trial.coinsPaid;
    }

    public int count(int what) {
        Cloth now = sheet.now;
        switch (what) {
            case 0:
                return now.cells;
            case 1:
                return now.people;
            case 2:
                return now.width;
            case 3:
                return ruleCount;
            case 4:
                return sheet.force;
            case 5:
                return now.day;
            case 6:
                return now.creasedJoints();
            case 7:
                return now.cellsOf(NONE);
            case 8:
                return sheet.logCount;
            case 9:
                return past.size;
            case 10:
                return sheet.x;
            case 11:
                return tape.size;
            default:
                return NONE;
        }
    }

    public int image(int k) {
        if (k < 0 || k >= MOST_IMAGES) {
            return NONE;
        }
        if (images[k] == null) {
            images[k] = new Sheet();
        }
        images[k].copyFrom(sheet);
        return sheet.now.day;
    }

    public int back(int k) {
        if (k < 0 || k >= MOST_IMAGES || images[k] == null) {
            return NONE;
        }
        sheet.copyFrom(images[k]);
        past.forget();
        return sheet.now.day;
    }

    private Rule ruleInForce() {
        return ruleOf(sheet.force);
    }

    /** The rule of that number; null, by which worth is the price, for NONE. */
    private Rule ruleOf(int number) {
        return number >= 0 && number < ruleCount ? rules[number] : null;
    }

    /** Finds by which rules, and by none, all logs are so: how many. */
    private int findSo() {
        int many = 0;
        for (int i = 0; i <= ruleCount && i < so.length; i++) {
            so[i] = explainsLogs(ruleOf(i - 1));
            if (so[i]) {
                many++;
            }
        }
        return many;
    }

    private boolean explainsLogs(Rule rule) {
        for (int i = 0; i < sheet.logCount; i++) {
            if (market.quote(sheet.told, rule, 0, sheet.logFold[i]) != sheet.logCoins[i]) {
                return false;
            }
        }
        return true;
    }

    /** Of the rules found to be so: how many at most tell one cost of the fold at a place. */
    private int alikeAt(int place) {
        int most = 0;
        for (int i = 0; i <= ruleCount && i < so.length; i++) {
            if (so[i]) {
                costs[i] = market.quote(sheet.told, ruleOf(i - 1), 0, 4 * place);
                most = Math.max(most, alikeUpTo(i));
            }
        }
        return most;
    }

    private int alikeUpTo(int newest) {
        int alike = 0;
        for (int i = 0; i <= newest; i++) {
            if (so[i] && costs[i] == costs[newest]) {
                alike++;
            }
        }
        return alike;
    }

    /** The least place by which who is to fold a cloth of that width wins, NONE if by none. */
    private static int winningPlace(int width) {
        int wins = 0;
        int found = NONE;
        for (int w = 1; w <= width && w <= MOST_CELLS; w++) {
            found = NONE;
            for (int place = w - 2; place >= 0; place--) {
                if (((wins >> widthAfter(w, place)) & 1) == 0) {
                    found = place;
                }
            }
            if (found != NONE) {
                wins |= 1 << w;
            }
        }
        return found;
    }

    private static int widthAfter(int width, int place) {
        return Math.max(place + 1, width - 1 - place);
    }

    /** The tape, and how it is read, sign by sign, up to its first fault. */
    private static final class Text {
        private final int[] bytes = new int[TAPE_BYTES];
        int size = 0;
        /** Where the reading stands: never on a blank. */
        private int at = 0;
        private int fault = 0;

        void append(int four) {
            for (int shift = 24; shift >= 0; shift -= 8) {
                if (size < bytes.length) {
                    bytes[size] = (four >>> shift) & 255;
                    size++;
                }
            }
        }

        void startReading() {
            at = 0;
            fault = 0;
            passBlanks();
        }

        int fault() {
            return fault;
        }

        boolean failed() {
            return fault != 0;
        }

        /** Only the first fault counts: all later ones come of it. */
        void fail(int place, int kind) {
            if (fault == 0) {
                fault = 1 + 8 * place + kind;
            }
        }

        void failHere() {
            fail(at, FAULT_SIGN);
        }

        int where() {
            return at;
        }

        boolean ended() {
            return at >= size;
        }

        boolean atDigit() {
            return at < size && isDigit(bytes[at]);
        }

        boolean takeSign(char sign) {
            if (at >= size || bytes[at] != sign) {
                return false;
            }
            at++;
            passBlanks();
            return true;
        }

        void needSign(char sign) {
            if (!takeSign(sign)) {
                failHere();
            }
        }

        /** The step of the rule for < <= = >= or >, NONE (and nothing is passed) if none stands here. */
        int takeComparison() {
            if (at >= size) {
                return NONE;
            }
            int sign = bytes[at];
            if (sign != '<' && sign != '=' && sign != '>') {
                return NONE;
            }
            at++;
            boolean wider = sign != '=' && at < size && bytes[at] == '=';
            if (wider) {
                at++;
            }
            passBlanks();
            if (sign == '=') {
                return OP_EQUAL;
            }
            if (sign == '<') {
                return wider ? OP_LESS_OR_EQUAL : OP_LESS;
            }
            return wider ? OP_MORE_OR_EQUAL : OP_MORE;
        }

        /** What it answers is of use only if nothing has failed. */
        int takeNumber(int least, int most) {
            int start = at;
            int value = 0;
            while (at < size && isDigit(bytes[at])) {
                if (at - start < NUMBER_DIGITS) {
                    value = 10 * value + bytes[at] - '0';
                }
                at++;
            }
            if (at == start) {
                fail(start, FAULT_SIGN);
            } else if (at - start > NUMBER_DIGITS || value < least || value > most) {
                fail(start, FAULT_NUMBER);
            }
            passBlanks();
            return value;
        }

        /** Which word of the list stands here, NONE (and nothing is passed) if none does. */
        int takeWord(String list) {
            int behind = at;
            while (behind < size && bytes[behind] >= 'a' && bytes[behind] <= 'z') {
                behind++;
            }
            int which = behind == at ? NONE : numberIn(list, behind);
            if (which != NONE) {
                at = behind;
                passBlanks();
            }
            return which;
        }

        boolean takesWord(String word) {
            return takeWord(word) != NONE;
        }

        private int numberIn(String list, int behind) {
            int which = 0;
            int same = at;
            for (int i = 0; i < list.length(); i++) {
                char letter = list.charAt(i);
                if (letter == ' ') {
                    if (same == behind) {
                        return which;
                    }
                    which++;
                    same = at;
                } else if (same >= at && same < behind && bytes[same] == letter) {
                    same++;
                } else {
                    same = NONE;
                }
            }
            return NONE;
        }

        private static boolean isDigit(int sign) {
            return sign >= '0' && sign <= '9';
        }

        private void passBlanks() {
            while (at < size && bytes[at] == ' ') {
                at++;
            }
        }
    }

    /** Reads a tape as a cloth into a draft, so that all stays if there is a fault. */
    private static final class ClothReader {
        final Cloth draft = new Cloth();

        /** The fault, 0 without. */
        int read(Text text) {
            text.startReading();
            for (int n = 0; n <= CLOTH_CLAUSES && !text.failed(); n++) {
                readClause(text, n);
                if (text.ended()) {
                    return text.fault();
                }
                text.needSign(';');
            }
            return text.fault();
        }

        private void readClause(Text text, int n) {
            int start = text.where();
            int kind = text.takeWord(CLOTH_WORDS);
            if (kind == NONE) {
                text.failHere();
                return;
            }
            boolean wrongTurn = (kind == CLAUSE_CLOTH) != (n == 0);
            boolean fifth = kind == CLAUSE_PERSON && draft.people >= MOST_PEOPLE;
            if (wrongTurn || n >= CLOTH_CLAUSES || (n > 0 && fifth)) {
                text.fail(start, FAULT_CLAUSE);
                return;
            }
            if (kind == CLAUSE_CLOTH) {
                readCells(text);
            } else if (kind == CLAUSE_PERSON) {
                readPerson(text);
            } else {
                readPair(text, kind);
            }
        }

        private void readCells(Text text) {
            int cells = text.takeNumber(2, MOST_CELLS);
            if (!text.failed()) {
                draft.beginFlat(cells);
            }
        }

        private void readPerson(Text text) {
            int coins = text.takeNumber(0, 999);
            if (!text.failed() && draft.people < MOST_PEOPLE) {
                draft.purse[draft.people] = coins;
                draft.people++;
            }
        }

        private void readPair(Text text, int kind) {
            boolean ofJoint = kind == CLAUSE_CREASE;
            int which = text.takeNumber(0, ofJoint ? draft.cells - 2 : draft.cells - 1);
            if (text.failed()) {
                return;
            }
            int value;
            if (ofJoint) {
                value = text.takeNumber(VALLEY, HILL);
            } else {
                value = text.takeNumber(0, kind == CLAUSE_OWNER ? draft.people - 1 : 99);
            }
            if (text.failed() || !draft.hasCell(which)) {
                return;
            }
            if (ofJoint) {
                draft.crease[which] = value;
            } else if (kind == CLAUSE_OWNER) {
                draft.owner[which] = value;
            } else {
                draft.worth[which] = value;
            }
        }
    }

    /** Reads a tape as a rule into steps that come behind what they work on. */
    private static final class RuleReader {
        /** Each step comes of a byte of its own: the end of a clause of its first one. */
        private final int[] steps = new int[TAPE_BYTES];
        private int size = 0;
        /** Values, and facts made of a sign. */
        private int items = 0;

        /** The fault, 0 without. */
        int read(Text text) {
            size = 0;
            items = 0;
            text.startReading();
            for (int n = 0; n <= RULE_CLAUSES && !text.failed(); n++) {
                readClause(text, n);
                if (text.ended()) {
                    return text.fault();
                }
                text.needSign(';');
            }
            return text.fault();
        }

        Rule made() {
            return new Rule(steps, size);
        }

        private void readClause(Text text, int n) {
            int start = text.where();
            if (!text.takesWord(PRICE_WORD)) {
                text.failHere();
                return;
            }
            if (n >= RULE_CLAUSES) {
                text.fail(start, FAULT_CLAUSE);
                return;
            }
            readSum(text);
            if (text.takesWord(IF_WORD)) {
                readTest(text, 0);
                addStep(OP_CHOOSE);
            } else {
                addStep(OP_TAKE);
            }
        }

        /** Facts joined by and, these parts by or; depth: how many brackets and nots it lies in. */
        private void readTest(Text text, int depth) {
            boolean joinsPart = false;
            boolean joinsFact = false;
            for (int n = 0; n <= RULE_ITEMS && !text.failed(); n++) {
                readFact(text, depth);
                if (joinsFact) {
                    addStep(OP_AND);
                }
                joinsFact = text.takesWord(AND_WORD);
                if (joinsFact) {
                    continue;
                }
                if (joinsPart) {
                    addStep(OP_OR);
                }
                joinsPart = text.takesWord(OR_WORD);
                if (!joinsPart) {
                    return;
                }
            }
        }

        private void readFact(Text text, int depth) {
            int start = text.where();
            boolean isNot = text.takesWord(NOT_WORD);
            boolean isBracket = !isNot && text.takeSign('[');
            if ((isNot || isBracket) && depth >= RULE_DEPTH) {
                text.fail(start, FAULT_DEPTH);
            } else if (isNot) {
                readFact(text, depth + 1);
                addStep(OP_NOT);
            } else if (isBracket) {
                readTest(text, depth + 1);
                text.needSign(']');
            } else {
                readSum(text);
                int step = takeComparison(text);
                readSum(text);
                addStep(step);
            }
        }

        private int takeComparison(Text text) {
            int start = text.where();
            int step = text.takeComparison();
            if (step == NONE) {
                text.failHere();
            } else {
                countItem(text, start);
            }
            return step;
        }

        private void readSum(Text text) {
            int joinsTerm = NONE;
            int joinsValue = NONE;
            for (int n = 0; n <= RULE_ITEMS && !text.failed(); n++) {
                readValue(text);
                if (joinsValue != NONE) {
                    addStep(joinsValue);
                }
                joinsValue = takeFactorSign(text);
                if (joinsValue != NONE) {
                    continue;
                }
                if (joinsTerm != NONE) {
                    addStep(joinsTerm);
                }
                joinsTerm = takeTermSign(text);
                if (joinsTerm == NONE) {
                    return;
                }
            }
        }

        private static int takeTermSign(Text text) {
            if (text.takeSign('+')) {
                return OP_ADD;
            }
            return text.takeSign('-') ? OP_SUBTRACT : NONE;
        }

        private static int takeFactorSign(Text text) {
            if (text.takeSign('*')) {
                return OP_MULTIPLY;
            }
            if (text.takeSign('/')) {
                return OP_DIVIDE;
            }
            return text.takeSign('%') ? OP_REST : NONE;
        }

        private void readValue(Text text) {
            int start = text.where();
            if (text.atDigit()) {
                addStep(OP_NUMBER | (text.takeNumber(0, MOST_NUMBER) << OP_BITS));
            } else {
                int word = text.takeWord(VALUE_WORDS);
                if (word == NONE) {
                    text.failHere();
                    return;
                }
                addStep(OP_WORD | (word << OP_BITS));
            }
            countItem(text, start);
        }

        /** Called once the item itself is known to be right, as other faults of its place go first. */
        private void countItem(Text text, int start) {
            items++;
            if (items > RULE_ITEMS) {
                text.fail(start, FAULT_ITEMS);
            }
        }

        private void addStep(int step) {
            if (size < steps.length) {
                steps[size] = step;
                size++;
            }
        }
    }

    /** A rule as steps for a stack of numbers, in which a test is 1 or 0. */
    private static final class Rule {
        private final int[] steps;

        Rule(int[] from, int size) {
            int fits = Math.max(0, Math.min(size, from.length));
            steps = new int[fits];
            System.arraycopy(from, 0, steps, 0, fits);
        }

        /** The sum of the first clause that holds, 0 without; the stack is a row to work in. */
        long sumFor(long[] words, long[] stack) {
            int top = 0;
            for (int i = 0; i < steps.length; i++) {
                int step = steps[i] & OP_MASK;
                int detail = steps[i] >> OP_BITS;
                if (step <= OP_WORD) {
                    if (top >= stack.length || detail < 0) {
                        return 0;
                    }
                    stack[top] = step == OP_NUMBER ? detail : wordAt(words, detail);
                    top++;
                } else if (top < 1 || top > stack.length) {
                    return 0;
                } else if (step == OP_TAKE) {
                    return stack[top - 1];
                } else if (step == OP_NOT) {
                    stack[top - 1] = 1 - stack[top - 1];
                } else if (top < 2) {
                    return 0;
                } else if (step == OP_CHOOSE) {
                    if (stack[top - 1] != 0) {
                        return stack[top - 2];
                    }
                    top -= 2;
                } else {
                    top--;
                    stack[top - 1] = join(step, stack[top - 1], stack[top]);
                }
            }
            return 0;
        }

        private static long wordAt(long[] words, int number) {
            return number >= 0 && number < words.length ? words[number] : 0;
        }

        private static long join(int step, long a, long b) {
            switch (step) {
                case OP_ADD:
                    return a + b;
                case OP_SUBTRACT:
                    return a - b;
                case OP_MULTIPLY:
                    return a * b;
                case OP_DIVIDE:
                    return b == 0 ? 0 : a / b;
                case OP_REST:
                    return b == 0 ? 0 : a % b;
                case OP_LESS:
                    return a < b ? 1 : 0;
                case OP_LESS_OR_EQUAL:
                    return a <= b ? 1 : 0;
                case OP_EQUAL:
                    return a == b ? 1 : 0;
                case OP_MORE_OR_EQUAL:
                    return a >= b ? 1 : 0;
                case OP_MORE:
                    return a > b ? 1 : 0;
                case OP_AND:
                    return a & b;
                default:
                    return a | b;
            }
        }
    }

    /**
     * The cloth and its people, as it lies. A fold is told as 4 * place + 2 * side + way,
     * by which folds also stand in the document's order.
     */
    private static final class Cloth {
        /** 0: there is no cloth. */
        int cells = 0;
        int people = 0;
        int width = 0;
        int day = 0;
        final int[] place = new int[MOST_CELLS];
        final int[] layer = new int[MOST_CELLS];
        final int[] up = new int[MOST_CELLS];
        final int[] owner = new int[MOST_CELLS];
        final int[] worth = new int[MOST_CELLS];
        final int[] crease = new int[MOST_CELLS];
        /** How many cells lie on each place. */
        final int[] thickness = new int[MOST_CELLS];
        final int[] purse = new int[MOST_PEOPLE];

        void copyFrom(Cloth other) {
            cells = other.cells;
            people = other.people;
            width = other.width;
            day = other.day;
            System.arraycopy(other.place, 0, place, 0, MOST_CELLS);
            System.arraycopy(other.layer, 0, layer, 0, MOST_CELLS);
            System.arraycopy(other.up, 0, up, 0, MOST_CELLS);
            System.arraycopy(other.owner, 0, owner, 0, MOST_CELLS);
            System.arraycopy(other.worth, 0, worth, 0, MOST_CELLS);
            System.arraycopy(other.crease, 0, crease, 0, MOST_CELLS);
            System.arraycopy(other.thickness, 0, thickness, 0, MOST_CELLS);
            System.arraycopy(other.purse, 0, purse, 0, MOST_PEOPLE);
        }

        /** A new cloth without people, open and without a crease; cells: 2 to 8. */
        void beginFlat(int newCells) {
            cells = newCells;
            people = 0;
            day = 0;
            for (int c = 0; c < MOST_CELLS; c++) {
                owner[c] = NONE;
                worth[c] = 1;
                crease[c] = 0;
            }
            layOpen();
        }

        void layOpen() {
            width = cells;
            for (int c = 0; c < MOST_CELLS; c++) {
                place[c] = c;
                layer[c] = 0;
                up[c] = 1;
                thickness[c] = c < cells ? 1 : 0;
            }
        }

        /** Each fold makes it narrower, so only an open one has its whole width. */
        boolean liesOpen() {
            return width == cells;
        }

        boolean hasCell(int c) {
            return c >= 0 && c < cells;
        }

        boolean hasJoint(int j) {
            return j >= 0 && j < cells - 1;
        }

        boolean hasPerson(int p) {
            return p >= 0 && p < people;
        }

        boolean hasFold(int line, int side, int way) {
            return line >= 0 && line < width - 1 && side >= 0 && side <= 1 && way >= 0 && way <= 1;
        }

        int foldCount() {
            return Math.max(0, 4 * (width - 1));
        }

        /** Of a person, or of nobody (NONE), as bits. */
        int cellsOf(int who) {
            int bits = 0;
            for (int c = 0; c < cells; c++) {
                if (owner[c] == who) {
                    bits |= 1 << c;
                }
            }
            return bits;
        }

        int creasedJoints() {
            int bits = 0;
            for (int j = 0; j < cells - 1; j++) {
                if (crease[j] != 0) {
                    bits |= 1 << j;
                }
            }
            return bits;
        }

        boolean moves(int c, int fold) {
            boolean right = place[c] > (fold >> 2);
            return right == ((fold & 2) == 0);
        }

        int movedCells(int fold) {
            int bits = 0;
            for (int c = 0; c < cells; c++) {
                if (moves(c, fold)) {
                    bits |= 1 << c;
                }
            }
            return bits;
        }

        /** The kind that a fold gives to a joint, 0 if it does not crease it. */
        int kindMade(int j, int fold) {
            int line = fold >> 2;
            if ((place[j] <= line) == (place[j + 1] <= line)) {
                return 0;
            }
            boolean over = (fold & 1) == 0;
            return (up[j] == 1) == over ? VALLEY : HILL;
        }

        boolean creasesAllow(int fold) {
            for (int j = 0; j < cells - 1; j++) {
                int made = kindMade(j, fold);
                if (made != 0 && crease[j] != 0 && crease[j] != made) {
                    return false;
                }
            }
            return true;
        }

        /** Whether each joint that the fold creases gets the kind of its mark. */
        boolean keepsToMarks(int[] marks, int fold) {
            for (int j = 0; j < cells - 1 && j < marks.length; j++) {
                int made = kindMade(j, fold);
                if (made != 0 && made != marks[j]) {
                    return false;
                }
            }
            return true;
        }

        boolean hasMarks(int[] marks) {
            for (int j = 0; j < cells - 1 && j < marks.length; j++) {
                if (crease[j] != marks[j]) {
                    return false;
                }
            }
            return true;
        }

        /** Lies as the other cloth does once it is folded; owners and coins are not touched. */
        void lieFolded(Cloth before, int fold) {
            int line = fold >> 2;
            boolean leftMoves = (fold & 2) != 0;
            int shift = leftMoves ? -line - 1 : Math.max(0, before.width - 2 * line - 2);
            cells = before.cells;
            width = widthAfter(before.width, line);
            for (int c = 0; c < cells; c++) {
                turnCell(before, c, fold);
                place[c] += shift;
            }
            for (int j = 0; j < cells - 1; j++) {
                int made = before.kindMade(j, fold);
                crease[j] = made != 0 ? made : before.crease[j];
            }
            countThickness();
        }

        private void turnCell(Cloth before, int c, int fold) {
            int here = before.place[c];
            int mirrored = 2 * (fold >> 2) + 1 - here;
            boolean under = (fold & 1) != 0;
            int across = before.layersOn(mirrored);
            if (before.moves(c, fold)) {
                int turned = before.layersOn(here) - 1 - before.layer[c];
                place[c] = mirrored;
                layer[c] = under ? turned : across + turned;
                up[c] = 1 - before.up[c];
            } else {
                place[c] = here;
                layer[c] = under ? across + before.layer[c] : before.layer[c];
                up[c] = before.up[c];
            }
        }

        private int layersOn(int p) {
            return p >= 0 && p < width ? thickness[p] : 0;
        }

        private void countThickness() {
            for (int p = 0; p < MOST_CELLS; p++) {
                thickness[p] = 0;
            }
            for (int c = 0; c < cells; c++) {
                if (place[c] >= 0 && place[c] < MOST_CELLS) {
                    thickness[place[c]]++;
                }
            }
        }
    }

    /** All that an image keeps. */
    private static final class Sheet {
        final Cloth now = new Cloth();
        /** The cloth as its text told it, of which the logs speak. */
        final Cloth told = new Cloth();
        final int[] marks = new int[MOST_CELLS];
        final int[] logFold = new int[MOST_LOGS];
        final int[] logCoins = new int[MOST_LOGS];
        int logCount = 0;
        int force = NONE;
        int x = 0;

        void begin(Cloth cloth) {
            now.copyFrom(cloth);
            told.copyFrom(cloth);
            logCount = 0;
            for (int j = 0; j < MOST_CELLS; j++) {
                marks[j] = 0;
            }
        }

        void copyFrom(Sheet other) {
            now.copyFrom(other.now);
            told.copyFrom(other.told);
            System.arraycopy(other.marks, 0, marks, 0, MOST_CELLS);
            System.arraycopy(other.logFold, 0, logFold, 0, MOST_LOGS);
            System.arraycopy(other.logCoins, 0, logCoins, 0, MOST_LOGS);
            logCount = other.logCount;
            force = other.force;
            x = other.x;
        }
    }

    /** The cloth as it was ahead of each of the last acts. */
    private static final class Past {
        private final Cloth[] kept = new Cloth[MOST_UNDONE];
        private int next = 0;
        int size = 0;

        void keep(Cloth cloth) {
            if (kept[next] == null) {
                kept[next] = new Cloth();
            }
            kept[next].copyFrom(cloth);
            next = (next + 1) % MOST_UNDONE;
            size = Math.min(size + 1, MOST_UNDONE);
        }

        void bringBack(Cloth cloth) {
            int newest = (next + MOST_UNDONE - 1) % MOST_UNDONE;
            if (size > 0 && kept[newest] != null) {
                cloth.copyFrom(kept[newest]);
                next = newest;
                size--;
            }
        }

        void forget() {
            size = 0;
        }
    }

    /** What folds cost, and how they are paid. */
    private static final class Market {
        private final Cloth before = new Cloth();
        private final int[] prices = new int[MOST_CELLS];
        private final long[] words = new long[VALUE_WORD_COUNT];
        private final long[] stack = new long[STACK_ROOM];

        /** The cost of a fold, whether or not the purse has it; CANNOT if creases forbid it. */
        int quote(Cloth cloth, Rule rule, int buyer, int fold) {
            if (!cloth.hasPerson(buyer) || !cloth.creasesAllow(fold)) {
                return CANNOT;
            }
            int moved = cloth.movedCells(fold);
            words[WORD_BUYER] = buyer;
            words[WORD_MOVED] = Integer.bitCount(moved);
            words[WORD_WIDTH] = cloth.width;
            words[WORD_WAY] = fold & 1;
            words[WORD_PURSE] = cloth.purse[buyer];
            words[WORD_DAY] = cloth.day;
            int sum = 0;
            for (int c = 0; c < cloth.cells; c++) {
                boolean sold = ((moved >> c) & 1) == 1 && cloth.owner[c] != buyer;
                prices[c] = sold ? priceOf(cloth, rule, c) : 0;
                sum += prices[c];
            }
            return sum;
        }

        private int priceOf(Cloth cloth, Rule rule, int c) {
            if (rule == null) {
                return cloth.worth[c];
            }
            words[WORD_CELL] = c;
            words[WORD_WORTH] = cloth.worth[c];
            words[WORD_OWNER] = cloth.owner[c];
            words[WORD_LAYER] = cloth.layer[c];
            words[WORD_PLACE] = cloth.place[c];
            return (int) Math.max(0, Math.min(MOST_PRICE, rule.sumFor(words, stack)));
        }

        /** Carries out the fold that was quoted last, for its buyer. */
        void settle(Cloth cloth, int buyer, int fold) {
            before.copyFrom(cloth);
            for (int c = 0; c < cloth.cells; c++) {
                int seller = cloth.owner[c];
                if (cloth.hasPerson(seller)) {
                    cloth.purse[seller] = Math.min(MOST_COINS, cloth.purse[seller] + prices[c]);
                }
                if (cloth.hasPerson(buyer)) {
                    cloth.purse[buyer] -= prices[c];
                }
                if (before.moves(c, fold)) {
                    cloth.owner[c] = buyer;
                }
            }
            cloth.lieFolded(before, fold);
            cloth.day = Math.min(MOST_DAY, cloth.day + 1);
        }
    }

    /** Searches the first of the shortest rows of folds that come to an end that was told. */
    private static final class FoldSearch {
        private final Cloth[] levels = new Cloth[MOST_CELLS];
        private final int[] row = new int[MOST_CELLS];
        private final int[] best = new int[MOST_CELLS];
        /** NONE: there is no such row. */
        private int length = NONE;

        FoldSearch() {
            for (int i = 0; i < levels.length; i++) {
                levels[i] = new Cloth();
            }
        }

        /** How many folds (what NONE), or the fold of that number. */
        int answer(int what) {
            if (length == NONE) {
                return CANNOT;
            }
            if (what == NONE) {
                return length;
            }
            return what >= 0 && what < length && what < best.length ? best[what] : CANNOT;
        }

        void seekMarks(int cells, int[] marks) {
            length = NONE;
            levels[0].beginFlat(cells);
            seekMarksFrom(0, marks);
        }

        /**
         * Goes through rows in their order, so a row of a length that was found already is a later one.
         * Folds of side 1 are left out: one lies as that of side 0 does with all of it turned over, from
         * where just as many folds lead on, so in the first row side is always 0.
         */
        private void seekMarksFrom(int depth, int[] marks) {
            if (depth >= levels.length || (length != NONE && depth >= length)) {
                return;
            }
            Cloth here = levels[depth];
            if (here.hasMarks(marks)) {
                keepRow(depth);
                return;
            }
            if (depth + 1 >= levels.length) {
                return;
            }
            int many = here.foldCount();
            for (int fold = 0; fold < many; fold++) {
                if ((fold & 2) == 0 && here.keepsToMarks(marks, fold)) {
                    row[depth] = fold;
                    levels[depth + 1].lieFolded(here, fold);
                    seekMarksFrom(depth + 1, marks);
                }
            }
        }

        private void keepRow(int folds) {
            length = folds;
            System.arraycopy(row, 0, best, 0, best.length);
        }

        void seekOwned(Market market, Rule rule, Cloth now, int person, int wanted) {
            length = NONE;
            levels[0].copyFrom(now);
            if ((wanted & ~now.cellsOf(person)) == 0) {
                keepRow(0);
            }
            for (int folds = 1; folds <= OWN_FOLDS && length == NONE; folds++) {
                if (ownsBy(market, rule, person, wanted, 0, folds)) {
                    keepRow(folds);
                }
            }
        }

        /** Whether just so many folds from this depth on will do; the first row that does is kept. */
        private boolean ownsBy(Market market, Rule rule, int person, int wanted, int depth, int folds) {
            if (depth + 1 >= levels.length || folds < 1) {
                return false;
            }
            Cloth here = levels[depth];
            int missing = wanted & ~here.cellsOf(person);
            int many = here.foldCount();
            for (int fold = 0; fold < many; fold++) {
                if (folds == 1 && (missing & ~here.movedCells(fold)) != 0) {
                    continue;
                }
                int coins = market.quote(here, rule, person, fold);
                if (coins == CANNOT || coins > here.purse[person]) {
                    continue;
                }
                row[depth] = fold;
                if (folds == 1) {
                    return true;
                }
                levels[depth + 1].copyFrom(here);
                market.settle(levels[depth + 1], person, fold);
                if (ownsBy(market, rule, person, wanted, depth + 1, folds - 1)) {
                    return true;
                }
            }
            return false;
        }
    }

    /**
     * All stacks of a strip, each as one number: from the top, three bits for the cell of each layer,
     * layer 0 first, so that the least number is the first stack; then the joints that are hills.
     */
    private static final class StackBook {
        private final int[] rows = new int[MOST_STACKS];
        private int rowCount = 0;
        /** The strip of which the rows are: they are made anew only for another one. */
        private int cells = 0;
        /** The layer of each cell, while a stack grows. */
        private final int[] layer = new int[MOST_CELLS];
        /** By the hills of a stack, or by 8 * cell + layer: how many. */
        private final int[] tally = new int[KIND_ROWS];
        /** How many stacks keep to the marks, and the first of them. */
        int chosen = 0;
        private int first = 0;

        /** Takes the stacks that keep to the marks, and counts them by the layer of each cell. */
        void choose(int newCells, int[] marks) {
            makeRows(newCells);
            clearTally();
            int joints = markedAs(marks, VALLEY) | markedAs(marks, HILL);
            int hills = markedAs(marks, HILL);
            chosen = 0;
            first = MORE_THAN_ANY;
            for (int i = 0; i < rowCount; i++) {
                if ((rows[i] & joints) == hills) {
                    chosen++;
                    first = Math.min(first, rows[i]);
                    countLayers(rows[i]);
                }
            }
        }

        private int markedAs(int[] marks, int kind) {
            int bits = 0;
            for (int j = 0; j < cells - 1 && j < marks.length; j++) {
                if (marks[j] == kind) {
                    bits |= 1 << j;
                }
            }
            return bits;
        }

        private void countLayers(int stack) {
            for (int at = 0; at < cells; at++) {
                tally[MOST_CELLS * cellAt(stack, at) + at]++;
            }
        }

        /** The cell in a layer of the first chosen stack. */
        int firstAt(int layerAsked) {
            return cellAt(first, layerAsked);
        }

        /** The layers in which a cell lies in chosen stacks, as bits. */
        int layersOf(int cell) {
            int bits = 0;
            for (int at = 0; at < cells; at++) {
                if (countOf(MOST_CELLS * cell + at) > 0) {
                    bits |= 1 << at;
                }
            }
            return bits;
        }

        /** The cell by whose layer the chosen stacks part best. */
        int bestCell() {
            int best = 0;
            for (int cell = 1; cell < cells; cell++) {
                if (mostAlike(cell) < mostAlike(best)) {
                    best = cell;
                }
            }
            return best;
        }

        /** How many chosen stacks at most have the cell in one layer. */
        int mostAlike(int cell) {
            int most = 0;
            for (int at = 0; at < cells; at++) {
                most = Math.max(most, countOf(MOST_CELLS * cell + at));
            }
            return most;
        }

        /** The least hills by which there are most stacks; countOf tells of them then. */
        int richestHills(int newCells) {
            makeRows(newCells);
            clearTally();
            for (int i = 0; i < rowCount; i++) {
                tally[rows[i] & (KIND_ROWS - 1)]++;
            }
            int best = 0;
            for (int hills = 1; hills < KIND_ROWS; hills++) {
                if (tally[hills] > tally[best]) {
                    best = hills;
                }
            }
            return best;
        }

        int countOf(int number) {
            return number >= 0 && number < KIND_ROWS ? tally[number] : 0;
        }

        private void clearTally() {
            for (int i = 0; i < KIND_ROWS; i++) {
                tally[i] = 0;
            }
        }

        private static int cellAt(int stack, int layerAsked) {
            return (stack >> shiftOf(layerAsked)) & 7;
        }

        private static int shiftOf(int layerAsked) {
            return KIND_BITS + 3 * (MOST_CELLS - 1 - layerAsked);
        }

        private void makeRows(int newCells) {
            if (newCells == cells || newCells < 1 || newCells > MOST_CELLS) {
                return;
            }
            cells = newCells;
            rowCount = 0;
            layer[0] = 0;
            addFrom(1, 0);
        }

        /** Puts a cell at each layer where it can lie among those before it, then the cells behind it. */
        private void addFrom(int cell, int hills) {
            if (cell >= cells || cell >= MOST_CELLS) {
                addRow(hills);
                return;
            }
            for (int at = 0; at <= cell; at++) {
                if (crosses(cell, at)) {
                    continue;
                }
                int joint = cell - 1;
                boolean faceUp = (joint & 1) == 0;
                boolean above = at > layer[joint];
                int kindBit = faceUp == above ? 0 : 1 << joint;
                makeRoom(cell, at);
                layer[cell] = at;
                addFrom(cell + 1, hills | kindBit);
                closeRoom(cell, at);
            }
        }

        /** Whether the joint ahead of a cell put there crosses one of its side among those before it. */
        private boolean crosses(int cell, int at) {
            int from = layer[cell - 1];
            int low = at > from ? from + 1 : at;
            int high = at > from ? at : from;
            for (int j = cell - 3; j >= 0; j -= 2) {
                boolean oneBetween = layer[j] >= low && layer[j] < high;
                boolean otherBetween = layer[j + 1] >= low && layer[j + 1] < high;
                if (oneBetween != otherBetween) {
                    return true;
                }
            }
            return false;
        }

        private void makeRoom(int cell, int at) {
            for (int c = 0; c < cell; c++) {
                if (layer[c] >= at) {
                    layer[c]++;
                }
            }
        }

        private void closeRoom(int cell, int at) {
            for (int c = 0; c < cell; c++) {
                if (layer[c] > at) {
                    layer[c]--;
                }
            }
        }

        private void addRow(int hills) {
            if (rowCount >= rows.length) {
                return;
            }
            int stack = hills;
            for (int c = 0; c < cells; c++) {
                stack |= c << shiftOf(layer[c]);
            }
            rows[rowCount] = stack;
            rowCount++;
        }
    }

    /** Drawn folds of a cloth of its own, of which nothing stays. */
    private static final class Trial {
        private final Cloth cloth = new Cloth();
        private long x = 0;
        int foldsMade = 0;
        int coinsPaid = 0;

        void begin(int seedNow) {
            x = seedNow;
            foldsMade = 0;
            coinsPaid = 0;
        }

        void run(Market market, Rule rule, Cloth now, int times) {
            if (now.people == 0) {
                return;
            }
            cloth.copyFrom(now);
            for (int i = 0; i < times; i++) {
                int buyer = drawBelow(cloth.people);
                if (cloth.width == 1) {
                    cloth.layOpen();
                } else {
                    int line = drawBelow(cloth.width - 1);
                    int side = drawBelow(2);
                    int way = drawBelow(2);
                    tryFold(market, rule, buyer, 4 * line + 2 * side + way);
                }
            }
        }

        private void tryFold(Market market, Rule rule, int buyer, int fold) {
            int coins = market.quote(cloth, rule, buyer, fold);
            if (coins != CANNOT && coins <= cloth.purse[buyer]) {
                market.settle(cloth, buyer, fold);
                foldsMade++;
                coinsPaid += coins;
            }
        }

        private int drawBelow(int bound) {
            x = (x * 1103515245L + 12345L) & 2147483647L;
            return bound < 1 ? 0 : (int) ((x >> 16) % bound);
        }
    }
}
