import java.io.IOException;
import java.nio.file.Files;
import java.nio.file.Path;
import java.util.ArrayList;
import java.util.HashSet;
import java.util.List;
import java.util.Set;
import java.util.function.Consumer;
import java.util.function.ToIntFunction;

/**
 * Tests that are named by a promise's number and a sentence of the document. Each sentence must stand in
 * the document word by word, and have one test alone.
 */
final class Sentences {
    private final String document = readDocument();
    private final Set<String> names = new HashSet<>();
    private String name = "";
    private int right = 0;
    private int wrong = 0;

    /** Empty if the document is not there: then the names are not compared. */
    private static String readDocument() {
        try {
            return Files.readString(Path.of("../shared/DOC.md")).replaceAll("\\s+", " ");
        } catch (IOException e) {
            return "";
        }
    }

    /** The test of this name begins: all up to the next one is its own. */
    void test(int promise, String sentence) {
        name = "promise " + promise + ", '" + sentence + "'";
        check(names.add(name), "has a test already");
        check(document.isEmpty() || document.contains(sentence), "is no sentence of the document");
    }

    private void check(boolean holds, String otherwise) {
        if (holds) {
            right++;
        } else {
            wrong++;
            System.out.println(name + ": " + otherwise);
        }
    }

    void due(String call, int got, int want) {
        check(got == want, call + " answered " + got + ", due is " + want);
    }

    /** The state in which a refused call has most to spoil. */
    static void busy(FoldDeeds x) {
        Told.cloth(x, "cloth 5;person 60;person 40;owner 0 0;owner 1 1;owner 2 1;crease 3 2;worth 2 7;worth 4 3");
        Told.rule(x, "price worth+day");
        Told.rule(x, "price cell if owner<0;price 2");
        x.force(0);
        x.mark(0, 1);
        x.mark(2, 2);
        x.log(3, 0, 1, 3);
        x.seed(12345);
        x.image(0);
        x.fold(0, 0, 1, 0);
        x.open();
        x.give(1, 0);
        x.image(2);
        x.fold(1, 1, 0, 1);
        x.mark(1, 1);
        Told.put(x, "cloth 3;person 7");
    }

    static FoldDeeds busy() {
        FoldDeeds x = new FoldDeeds();
        busy(x);
        return x;
    }

    /** A call that is refused: its answer is due, and nothing happens. */
    void refused(String call, ToIntFunction<FoldDeeds> refused, int want) {
        refused(call, Sentences::busy, refused, want);
    }

    void refused(String call, Consumer<FoldDeeds> before, ToIntFunction<FoldDeeds> refused, int want) {
        FoldDeeds x = new FoldDeeds();
        FoldDeeds twin = new FoldDeeds();
        before.accept(x);
        before.accept(twin);
        due(call, refused.applyAsInt(x), want);
        alike(call, x, twin);
    }

    /** Nothing happened if no later answer tells the object from its twin, which did not have the call. */
    void alike(String call, FoldDeeds x, FoldDeeds twin) {
        List<String> got = new ArrayList<>();
        List<String> want = new ArrayList<>();
        traceAll(x, got);
        traceAll(twin, want);
        for (int i = 0; i < want.size(); i++) {
            check(got.get(i).equals(want.get(i)),
                    "behind " + call + " there is " + got.get(i) + ", and was " + want.get(i));
        }
    }

    /** Some 300 calls, so that the ones before it may be 200: what calls answer is free behind the 512th. */
    private static void traceAll(FoldDeeds x, List<String> to) {
        traceCloth(x, to);
        traceAsked(x, to);
        for (int i = 0; i <= 20; i++) {
            to.add("undo() number " + i + ": " + x.undo());
            int[] counts = {2, 5, 6, 7, 9};
            for (int what : counts) {
                to.add("count(" + what + ") behind it: " + x.count(what));
            }
            to.add("PURSE 0 behind it: " + x.person(0, 0));
        }
        for (int k = 0; k < 4; k++) {
            to.add("back(" + k + "): " + x.back(k));
            int[] counts = {0, 2, 4, 6, 8, 10};
            for (int what : counts) {
                to.add("count(" + what + ") behind it: " + x.count(what));
            }
        }
        to.add("cloth() of the TAPE: " + x.cloth());
    }

    private static void traceCloth(FoldDeeds x, List<String> to) {
        for (int what = 0; what <= 11; what++) {
            to.add("count(" + what + "): " + x.count(what));
        }
        for (int i = 0; i < 8; i++) {
            for (int what = 0; what <= 4; what++) {
                to.add("cell(" + i + ", " + what + "): " + x.cell(i, what));
            }
            to.add("thick(" + i + "): " + x.thick(i));
        }
        for (int what = 0; what <= 1; what++) {
            for (int i = 0; i < 7; i++) {
                to.add("joint(" + i + ", " + what + "): " + x.joint(i, what));
            }
            for (int i = 0; i < 4; i++) {
                to.add("person(" + i + ", " + what + "): " + x.person(i, what));
            }
        }
    }

    private static void traceAsked(FoldDeeds x, List<String> to) {
        for (int fold = 0; fold < 28; fold++) {
            to.add("cost of " + fold + ": " + x.cost(0, fold / 4, fold / 2 % 2, fold % 2));
        }
        to.add("folds(NONE): " + x.folds(-1));
        to.add("stacks(NONE): " + x.stacks(-1));
        for (int what = 0; what <= 1; what++) {
            to.add("ruled(" + what + "): " + x.ruled(what));
            to.add("look(" + what + "): " + x.look(what));
            to.add("days(2, 9, " + what + "): " + x.days(2, 9, what));
        }
    }

    /** How each cell lies. */
    void lies(FoldDeeds x, int[] place, int[] layer, int[] up) {
        for (int c = 0; c < place.length; c++) {
            due("PLACE of CELL " + c, x.cell(c, 0), place[c]);
            due("LAYER of CELL " + c, x.cell(c, 1), layer[c]);
            due("face of CELL " + c, x.cell(c, 2), up[c]);
        }
    }

    void finish() {
        System.out.println(names.size() + " sentences: " + right + " answers are as due, " + wrong + " are not");
        if (wrong > 0) {
            System.exit(1);
        }
    }
}
