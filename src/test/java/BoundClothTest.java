/** The bounds of promises 1 to 4: a new object, feed, end, cloth, and the text of a CLOTH. */
public final class BoundClothTest {
    private static final Sentences S = new Sentences();

    private static void newObject() {
        S.test(1, "No CLOTH, no RULES, none IN FORCE.");
        FoldDeeds other = Sentences.busy();
        FoldDeeds x = new FoldDeeds();
        int[] counts = {0, 0, 0, 0, -1, 0, 0, 0, 0, 0, 0, 0};
        for (int what = 0; what < counts.length; what++) {
            S.due("count(" + what + ") beside another object in use", x.count(what), counts[what]);
        }
        S.due("force(NONE): which was", x.force(-1), -1);
        S.due("force(0)", x.force(0), -2);
        S.due("RULES of the other object", other.count(3), 2);
    }

    private static void feed() {
        S.test(2, "Twenty bytes come behind the TAPE, of each number the highest first: how many it has");
        FoldDeeds x = new FoldDeeds();
        S.due("feed of an empty TAPE", x.feed(0, 0, 0, 0, 0), 20);
        S.due("feed of 20 bytes", x.feed(0, 0, 0, 0, 0), 40);
        S.due("bytes of the TAPE", x.count(11), 40);
        S.due("end(1)", x.end(1), 1);
        S.due("feed of 1 byte", x.feed(0, 0, 0, 0, 0), 21);
        for (int place = 0; place < 40; place++) {
            S.due("cloth() of a byte 255 at " + place + " among blanks", wrongByteAt(place), Told.fault(place, 0));
        }
        x = new FoldDeeds();
        x.feed(0x636C6F74, 0x68202020, 0x20202020, 0x20202020, 0x20202033);
        S.due("cloth() of 'cloth', 14 blanks and '3'", x.cloth(), 3);

        S.test(2, "NONE, and none comes, if it would have more than 400.");
        int[][] asks = {{379, 399}, {380, 400}, {381, -1}, {399, -1}, {400, -1}};
        for (int[] a : asks) {
            x = ofBytes(a[0]);
            S.due("feed of " + a[0] + " bytes", x.feed(-1, -1, -1, -1, -1), a[1]);
            S.due("bytes of the TAPE", x.count(11), a[1] < 0 ? a[0] : a[1]);
            S.due("cloth()", x.cloth(), a[1] < 0 ? 3 : Told.fault(a[0], 0));
        }
        S.refused("feed of 381 bytes", o -> Told.put(o, clothOfBytes(381)), o -> o.feed(-1, -1, -1, -1, -1), -1);
        S.refused("feed of 400 bytes", o -> Told.put(o, clothOfBytes(400)), o -> o.feed(-1, -1, -1, -1, -1), -1);
    }

    private static int wrongByteAt(int place) {
        FoldDeeds x = new FoldDeeds();
        for (int i = 0; i < 2; i++) {
            int[] n = new int[5];
            for (int k = 0; k < 20; k++) {
                n[k / 4] = n[k / 4] << 8 | (20 * i + k == place ? 255 : ' ');
            }
            x.feed(n[0], n[1], n[2], n[3], n[4]);
        }
        return x.cloth();
    }

    private static String clothOfBytes(int size) {
        return "cloth 3" + " ".repeat(size - 7);
    }

    private static FoldDeeds ofBytes(int size) {
        FoldDeeds x = new FoldDeeds();
        Told.put(x, clothOfBytes(size));
        return x;
    }

    private static void end() {
        S.test(3, "The TAPE has its first n bytes alone: n");
        int[][] asks = {{16, 3}, {15, Told.fault(15, 0)}, {8, Told.fault(8, 0)}, {7, 3}, {6, Told.fault(6, 0)},
            {1, Told.fault(0, 0)}, {0, Told.fault(0, 0)}};
        for (int[] a : asks) {
            FoldDeeds x = new FoldDeeds();
            Told.put(x, "cloth 3;person 7");
            S.due("end(" + a[0] + ") of 16 bytes", x.end(a[0]), a[0]);
            S.due("bytes of the TAPE", x.count(11), a[0]);
            S.due("cloth() of " + a[0] + " bytes", x.cloth(), a[1]);
        }
        FoldDeeds x = new FoldDeeds();
        Told.put(x, "cloth 3;person 7");
        x.end(6);
        S.due("feed behind 6 bytes", x.feed(0x38202020, 0x20202020, 0x20202020, 0x20202020, 0x20202020), 26);
        S.due("cloth() of 'cloth ' and '8'", x.cloth(), 8);
        cutAt("cloth 00003;person 999;person 12;owner 2 1;crease 1 2;worth 0 99", true);
        cutAt("price 1+cell*12345 if not [1<=22 or way=0] and 1>=1;price 12", false);

        S.test(3, "NONE, and nothing happens, if it has not so many, or n is below 0.");
        S.refused("end(17) of 16 bytes", o -> o.end(17), -1);
        S.refused("end(MAX)", o -> o.end(Integer.MAX_VALUE), -1);
        S.refused("end(-1)", o -> o.end(-1), -1);
        S.refused("end(MIN)", o -> o.end(Integer.MIN_VALUE), -1);
        S.refused("end(1) of an empty TAPE", o -> o.end(0), o -> o.end(1), -1);
        S.refused("end(401) of 400 bytes", o -> Told.put(o, clothOfBytes(400)), o -> o.end(401), -1);
        S.refused("end(20), behind which 20 bytes were", o -> { o.feed(0, 0, 0, 0, 0); o.end(19); }, o -> o.end(20), -1);
        S.due("end(0) of an empty TAPE", new FoldDeeds().end(0), 0);
    }

    /** What stood behind the cut is never read: each beginning of a text is as if it had come alone. */
    private static void cutAt(String text, boolean isCloth) {
        for (int n = 0; n <= text.length(); n++) {
            FoldDeeds cut = new FoldDeeds();
            FoldDeeds alone = new FoldDeeds();
            Told.put(cut, text);
            cut.end(n);
            Told.put(alone, text.substring(0, n));
            S.due("what '" + text.substring(0, n) + "' is, cut off", isCloth ? cut.cloth() : cut.rule(),
                    isCloth ? alone.cloth() : alone.rule());
        }
    }

    private static void cloth() {
        S.test(4, "The TAPE, which is empty then, is the CLOTH in place of the one there was (no LOGS, MARKS 0,"
                + " nothing to be UNDONE; the RULE IN FORCE and x stay): how many CELLS");
        FoldDeeds x = Sentences.busy();
        x.mark(3, 2);
        S.due("LOGS ahead of it", x.count(8), 1);
        S.due("ACTS ahead of it", x.count(9), 4);
        S.due("cloth() of 'cloth 3;person 7'", x.cloth(), 3);
        int[] counts = {3, 1, 3, 2, 0, 0, 0, 7, 0, 0, 12345, 0};
        for (int what = 0; what < counts.length; what++) {
            S.due("count(" + what + ") behind it", x.count(what), counts[what]);
        }
        S.due("undo()", x.undo(), -1);
        S.due("MARK of JOINT 0", x.joint(0, 1), 0);
        S.due("MARK of JOINT 1", x.joint(1, 1), 0);
        S.due("WORTH of CELL 2", x.cell(2, 4), 1);
        S.due("PURSE of PERSON 0", x.person(0, 0), 7);
        Told.cloth(x, "cloth 5");
        S.due("a MARK that the cloth of 3 had no JOINT for", x.joint(2, 1), 0);
        S.due("a MARK that the cloth of 3 had no JOINT for", x.joint(3, 1), 0);
        S.due("back(0): an IMAGE of the first CLOTH", x.back(0), 0);
        S.due("CELLS then", x.count(0), 5);
        S.due("LOGS then", x.count(8), 1);
        String full = "cloth2" + ";person1".repeat(4) + ";worth0 1".repeat(35);
        for (int i = 0; i < 3; i++) {
            S.due("a CLOTH of 40 CLAUSES and 4 PEOPLE behind another one", Told.cloth(x, full), 2);
            S.due("one CLAUSE too many", Told.cloth(x, full + ";worth0 1"), Told.fault(full.length() + 1, 4));
            S.due("PEOPLE", x.count(1), 4);
        }

        S.test(4, "-2 - its FAULT, and all stays.");
        String[] texts = {"cloth 9", "cloth 3;person 7;person 7;owner 0 2", "cloth 8;person 9;crease 7 1", "", "price 1"};
        int[] faults = {Told.fault(6, 1), Told.fault(34, 1), Told.fault(24, 1), Told.fault(0, 0), Told.fault(0, 0)};
        for (int i = 0; i < texts.length; i++) {
            x = Sentences.busy();
            FoldDeeds twin = Sentences.busy();
            S.due("cloth() of '" + texts[i] + "'", Told.cloth(x, texts[i]), faults[i]);
            twin.end(0);
            S.alike("cloth() of '" + texts[i] + "'", x, twin);
        }
        S.refused("cloth() of nothing on a new object", o -> { }, FoldDeeds::cloth, -3);
    }

    private static void text(String text, int want) {
        S.due("cloth() of '" + text + "'", Told.cloth(new FoldDeeds(), text), want);
    }

    private static void fault(String text, int place, int kind) {
        text(text, Told.fault(place, kind));
    }

    private static void sizes() {
        S.test(4, "A CLOTH is a text of at most 400 bytes");
        text("cloth" + " ".repeat(393) + "2", 2);
        text("cloth" + " ".repeat(394) + "2", 2);
        text("cloth 2" + " ".repeat(393), 2);
        fault("cloth" + " ".repeat(395), 400, 0);
        fault("cloth 2" + " ".repeat(392) + ";", 400, 0);
        fault("cloth 2" + " ".repeat(392) + "2", 399, 0);

        S.test(4, "CLAUSE { ; CLAUSE }, 40 at most");
        String more = ";worth0 1";
        text("cloth2", 2);
        text("cloth2" + more.repeat(38), 2);
        text("cloth2" + more.repeat(39), 2);
        fault("cloth2" + more.repeat(40), 6 + 9 * 39 + 1, 4);
        fault("cloth2" + more.repeat(41), 6 + 9 * 39 + 1, 4);
        fault("cloth2" + more.repeat(39) + ";", 6 + 9 * 39 + 1, 0);
        fault("cloth 2;", 8, 0);
        fault(";cloth 2", 0, 0);
        fault("cloth 2;;worth 0 1", 8, 0);
        fault("cloth 2,worth 0 1", 7, 0);
        fault("cloth 2 worth 0 1", 8, 0);
        S.due("WORTH told by the fortieth",
                Told.clothOf("cloth2" + more.repeat(38) + ";worth0 7").cell(0, 4), 7);
    }

    private static void clauses() {
        S.test(4, "cloth NUMBER (CELLS 2 to 8; once, the first CLAUSE)");
        int[] cells = {2, 3, 7, 8};
        for (int n : cells) {
            text("cloth " + n, n);
            S.due("CELLS", Told.clothOf("cloth " + n).count(0), n);
        }
        int[] none = {0, 1, 9, 10, 99999};
        for (int n : none) {
            fault("cloth " + n, 6, 1);
        }
        fault("cloth 2;cloth 2", 8, 4);
        fault("cloth 2;person 1;cloth 9", 17, 4);
        String[] others = {"person 1", "owner 0 0", "crease 0 1", "worth 0 1"};
        for (String other : others) {
            fault(other, 0, 4);
            fault(other + ";cloth 2", 0, 4);
        }

        S.test(4, "person NUMBER (PURSE 0 to 999)");
        int[] purses = {0, 1, 998, 999};
        for (int n : purses) {
            S.due("PURSE", Told.clothOf("cloth 2;person " + n).person(0, 0), n);
        }
        fault("cloth 2;person 1000", 15, 1);
        fault("cloth 2;person 99999", 15, 1);
        fault("cloth 2;person -1", 15, 0);

        S.test(4, "PEOPLE 0 to 3, in the order told.");
        S.due("PEOPLE of none", Told.clothOf("cloth 2").count(1), 0);
        S.due("PEOPLE of one", Told.clothOf("cloth 2;person 5").count(1), 1);
        S.due("PEOPLE of three", Told.clothOf("cloth 2;person 5;person 6;person 7").count(1), 3);
        FoldDeeds x = Told.clothOf("cloth 2;person 5;worth 0 2;person 6;person 7;owner 0 2;person 8");
        S.due("PEOPLE of four", x.count(1), 4);
        for (int p = 0; p < 4; p++) {
            S.due("PURSE of PERSON " + p, x.person(p, 0), 5 + p);
        }
        S.due("PERSON 4", x.person(4, 0), -1);
        fault("cloth 2;person 5;person 6;person 7;person 8;person 9", 44, 4);

        S.test(4, "It lies open: CELL c on PLACE c, face up; DAY 0.");
        x = Sentences.busy();
        S.due("DAY ahead of it", x.count(5), 2);
        Told.cloth(x, "cloth 4;person 1;crease 1 2");
        S.lies(x, new int[] {0, 1, 2, 3}, new int[4], new int[] {1, 1, 1, 1});
        S.due("WIDTH", x.count(2), 4);
        S.due("DAY", x.count(5), 0);
        S.due("open()", x.open(), -1);
    }

    private static void owners() {
        S.test(4, "owner NUMBER NUMBER (a CELL; the PERSON, who was told, whose it is; of one the last told;"
                + " nobody's without)");
        FoldDeeds x = Told.clothOf("cloth 3;person 1;person 2;owner 0 0;owner 2 1;owner 0 1;owner 2 0");
        S.due("whose CELL 0 is", x.cell(0, 3), 1);
        S.due("whose CELL 1 is", x.cell(1, 3), -1);
        S.due("whose CELL 2 is", x.cell(2, 3), 0);
        fault("cloth 3;person 1;person 2;owner 3 0", 32, 1);
        fault("cloth 3;person 1;person 2;owner 2 2", 34, 1);
        fault("cloth 3;owner 2 0", 16, 1);
        fault("cloth 3;owner 3 0", 14, 1);
        fault("cloth 3;owner 0 0;person 1", 16, 1);
        fault("cloth 3;person 1;owner 0 1;person 1", 25, 1);
        fault("cloth 8;person 1;owner 8 0", 23, 1);
        S.due("whose CELL 7 is", Told.clothOf("cloth 8;person 1;owner 7 0").cell(7, 3), 0);
        S.due("whose CELL 1 of 2 is", Told.clothOf("cloth 2;person 1;owner 1 0").cell(1, 3), 0);
        S.due("by the fourth PERSON",
                Told.clothOf("cloth 2;person 1;person 1;person 1;person 1;owner 0 3").cell(0, 3), 3);

        S.test(4, "crease NUMBER NUMBER (a JOINT, 0 to CELLS less 2: the one between the CELL of that number and"
                + " the next one; 1 a valley, 2 a hill; of one the last told, 0, none, without)");
        x = Told.clothOf("cloth 4;crease 0 1;crease 2 2;crease 0 2;crease 2 1");
        S.due("JOINT 0", x.joint(0, 0), 2);
        S.due("JOINT 1", x.joint(1, 0), 0);
        S.due("JOINT 2", x.joint(2, 0), 1);
        fault("cloth 4;crease 3 1", 15, 1);
        fault("cloth 4;crease 4 1", 15, 1);
        fault("cloth 4;crease 2 0", 17, 1);
        fault("cloth 4;crease 2 3", 17, 1);
        fault("cloth 2;crease 1 1", 15, 1);
        fault("cloth 8;crease 7 1", 15, 1);
        S.due("the only JOINT of 2 CELLS", Told.clothOf("cloth 2;crease 0 2").joint(0, 0), 2);
        S.due("the last JOINT of 8 CELLS", Told.clothOf("cloth 8;crease 6 1").joint(6, 0), 1);
        x = Told.clothOf("cloth 3;person 9;crease 1 1");
        S.due("a hill between CELLS 0 and 1", x.cost(0, 0, 0, 1), 2);
        S.due("a hill between CELLS 1 and 2", x.cost(0, 1, 0, 1), -2);

        S.test(4, "worth NUMBER NUMBER (a CELL; WORTH 0 to 99; of one the last told, 1 without)");
        x = Told.clothOf("cloth 5;worth 0 0;worth 2 1;worth 3 98;worth 4 0;worth 4 99;worth 3 97;worth 3 98");
        int[] worths = {0, 1, 1, 98, 99};
        for (int c = 0; c < worths.length; c++) {
            S.due("WORTH of CELL " + c, x.cell(c, 4), worths[c]);
        }
        fault("cloth 5;worth 5 1", 14, 1);
        fault("cloth 5;worth 4 100", 16, 1);
        fault("cloth 8;worth 8 1", 14, 1);
        S.due("WORTH of CELL 7", Told.clothOf("cloth 8;worth 7 5").cell(7, 4), 5);
    }

    private static void signs() {
        S.test(4, "Blanks (32) stand between as one likes.");
        text("  cloth  2  ;  worth  0  3  ", 2);
        text("cloth2;worth0 3;person7;crease0 1;owner0 0", 2);
        fault("clo th 2", 0, 0);
        fault("cloth 2;worth 01", 16, 0);
        fault("cloth 2;person 1;owner 0 0 0", 27, 0);
        int[] noBlanks = {0, 9, 10, 13, 31, 33, 160};
        for (int sign : noBlanks) {
            fault("cloth" + (char) sign + "2", 5, 0);
        }

        S.test(4, "0 a byte or WORD that can't stand there, or the end (behind the last byte)");
        fault("", 0, 0);
        fault("   ", 3, 0);
        fault("cloth", 5, 0);
        fault("cloth  ", 7, 0);
        fault("cloth 2;", 8, 0);
        fault("cloth 2; ", 9, 0);
        fault("cloth 2;worth", 13, 0);
        fault("cloth 2;worth 0", 15, 0);
        fault("cloth 2;worth 0 ", 16, 0);
        fault("cloth 2 x", 8, 0);
        fault("cloth 2;x", 8, 0);
        fault("cloth x", 6, 0);
        fault("cloth cloth", 6, 0);
        fault("cloths 2", 0, 0);
        fault("clot 2", 0, 0);
        fault("Cloth 2", 0, 0);
        fault("clotha 2", 0, 0);
        fault("clothz 2", 0, 0);
        fault("cloth`2", 5, 0);
        fault("cloth{2", 5, 0);
        fault("cloth/2", 5, 0);
        fault("cloth 2/", 7, 0);
        fault("cloth 2:", 7, 0);
        fault("cloth 2;worth 0 x", 16, 0);
        fault("cloth 2;worth 0;", 15, 0);
        fault("cloth 2;price 1", 8, 0);
        fault("cloth 2;personal 1", 8, 0);
        fault("cloth 2" + (char) 0, 7, 0);
        fault("" + (char) 255, 0, 0);
        fault("2", 0, 0);
    }

    private static void faults() {
        S.test(4, "1 a NUMBER of more digits, or not as told");
        text("cloth 00002", 2);
        fault("cloth 000002", 6, 1);
        fault("cloth 99999", 6, 1);
        fault("cloth 9999999999999999999999", 6, 1);
        fault("cloth 2147483650", 6, 1);
        fault("cloth 4294967298", 6, 1);
        S.due("PURSE of five digits", Told.clothOf("cloth 2;person 00999").person(0, 0), 999);
        fault("cloth 2;person 000999", 15, 1);
        fault("cloth 2;worth 000000 1", 14, 1);
        fault("cloth 2;worth 0 000001", 16, 1);

        S.test(4, "4 one CLAUSE too many, a second cloth, another CLAUSE ahead of it, a fifth PERSON"
                + " (at its first byte)");
        String forty = "cloth2" + ";worth0 1".repeat(39);
        fault(forty + " ; worth0 1", forty.length() + 3, 4);
        fault(forty + ";cloth2", forty.length() + 1, 4);
        fault(forty + ";person", forty.length() + 1, 4);
        fault("cloth 2 ;  cloth 2", 11, 4);
        fault("cloth 2;cloth", 8, 4);
        fault("  person 1", 2, 4);
        fault("owner", 0, 4);
        String four = "cloth 2" + ";person 1".repeat(4);
        text(four + ";owner 1 3", 2);
        fault(four + ";person 1", four.length() + 1, 4);
        fault(four + ";owner 1 3; person", four.length() + 12, 4);

        S.test(4, "FAULTS, the first along the text, 1 + 8 * its place");
        fault("cloth 9;cloth 2;x", 6, 1);
        fault("cloth 2;cloth 2;x", 8, 4);
        fault("cloth 2;x;cloth 2", 8, 0);
        fault("cloth 2;worth 2 100", 14, 1);
        fault("cloth 2;worth x 100", 14, 0);
        fault("person 1000", 0, 4);
        fault("cloth 9" + " ".repeat(392) + "x", 6, 1);
        S.due("the FAULT of a place 0", Told.cloth(new FoldDeeds(), "x"), -3);
        S.due("the FAULT of a place 400", Told.cloth(new FoldDeeds(), "cloth 2" + " ".repeat(392) + ";"), -3203);

        S.test(4, "Of one place the least.");
        fault(forty + ";x", forty.length() + 1, 0);
        fault(forty + ";", forty.length() + 1, 0);
        fault(forty + ";price 1", forty.length() + 1, 0);
        fault(four + ";persons 1", four.length() + 1, 0);
        fault("cloth 2;cloths 2", 8, 0);
        fault("cloth 2 999999", 8, 0);
    }

    public static void main(String[] args) {
        newObject();
        feed();
        end();
        cloth();
        sizes();
        clauses();
        owners();
        signs();
        faults();
        S.finish();
    }
}
