/** Tells an object texts, twenty bytes a call, as its tape takes them. */
final class Told {
    private Told() {
    }

    /** The tape is this text alone; signs are bytes, at most 400 of them. */
    static void put(FoldDeeds x, String text) {
        x.end(0);
        for (int i = 0; i < text.length(); i += 20) {
            int[] n = new int[5];
            for (int k = 0; k < 20; k++) {
                n[k / 4] = n[k / 4] << 8 | (i + k < text.length() ? text.charAt(i + k) & 255 : 0);
            }
            x.feed(n[0], n[1], n[2], n[3], n[4]);
        }
        x.end(text.length());
    }

    static int cloth(FoldDeeds x, String text) {
        put(x, text);
        return x.cloth();
    }

    static int rule(FoldDeeds x, String text) {
        put(x, text);
        return x.rule();
    }

    /** A new object with that cloth. */
    static FoldDeeds clothOf(String text) {
        FoldDeeds x = new FoldDeeds();
        if (cloth(x, text) < 2) {
            throw new IllegalStateException("not a cloth: " + text);
        }
        return x;
    }

    /** A rule is told, and is in force. */
    static void force(FoldDeeds x, String text) {
        int number = rule(x, text);
        if (number < 0) {
            throw new IllegalStateException("not a rule: " + text);
        }
        x.force(number);
    }

    /** What cloth() and rule() answer for a fault of that kind at that place. */
    static int fault(int place, int kind) {
        return -2 - (1 + 8 * place + kind);
    }
}
