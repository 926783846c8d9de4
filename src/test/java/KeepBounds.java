/** Section 7 and promises 61 to 65: reports, undo, what is saved. */
final class KeepBounds {
    private static final String ONE = "panel 1 1;steps 20 glass 80 base 0;";
    private static final String TONES = "panel 4 3;steps 9 glass 70 base 1;row 9 99 180 30;row 70 200 5 120;"
            + "row 255 0 66 130;";
    private static final String[] CHANGES = {"setTone", "setHeight", "fill", "repair", "smooth", "ease", "dither",
        "polish", "invert", "lighten", "mirror", "stamp", "runScript"};

    private KeepBounds() {
    }

    private static void change(ReliefBuilder b, String name) {
        switch (name) {
            case "setTone" -> b.setTone(1, 1, 9);
            case "setHeight" -> b.setHeight(1, 1, 9);
            case "fill" -> b.fill(1, 1, 2, 2, 4);
            case "repair" -> b.repair();
            case "smooth" -> b.smooth(1);
            case "ease" -> b.ease();
            case "dither" -> b.dither();
            case "polish" -> b.polish();
            case "invert" -> b.invert();
            case "lighten" -> b.lighten(40);
            case "mirror" -> b.mirror();
            case "stamp" -> b.stamp(2, 2, 1, 0);
            default -> Check.run(b, "invert;height 0 0 5;mirror;");
        }
    }

    // ---- section 7

    @Sentence(of = "section 7",
            says = "Each call of setTone(), setHeight(), fill(), repair(), smooth(), ease(), dither()")
    static void eachChange() {
        for (String name : CHANGES) {
            ReliefBuilder b = Check.relief(TONES);
            b.putStamp(2, 2, 0, 3, 4);
            String before = Check.look(b);
            change(b, name);
            Check.due(name + " changes something", false, () -> before.equals(Check.look(b)));
            Check.due(name + " can be undone", 0, b::undo);
            Check.due(name + " is undone", before, () -> Check.look(b));
            Check.due(name + " was one call", -1, b::undo);
        }
    }

    @Sentence(of = "section 7", says = "behind which some tone or height is another one than ahead of it can be undone")
    static void changesNothing() {
        ReliefBuilder b = Check.relief("panel 3 2;steps 8 glass 80 base 0;");
        b.putStamp(2, 0, 0, 6, 20);
        b.putStamp(2, 1, 1, 1, 2);
        Check.due("setTone", 0, () -> b.setTone(2, 1, 255));
        Check.due("setHeight", 0, () -> b.setHeight(2, 1, 0));
        Check.due("fill", 0, () -> b.fill(0, 0, 3, 2, 0));
        Check.due("repair", 0, b::repair);
        Check.due("smooth", 0, () -> b.smooth(1));
        Check.due("ease", 0, b::ease);
        Check.due("dither", 0, b::dither);
        Check.due("polish", 0, b::polish);
        Check.due("lighten", 0, () -> b.lighten(255));
        Check.due("mirror", 0, b::mirror);
        Check.due("stamp", 0, () -> b.stamp(2, 0, 0, 0));
        Check.due("runScript", 4, () -> Check.run(b, "invert;invert;stamp 2 1 0 0;stamp 2 0 0 0;"));
        Check.due("stampGain", 2, () -> b.stampGain(2, 1, 0, 0));
        Check.due("repairLoss", 0, b::repairLoss);
        Check.due("save", 0, () -> b.save(0));
        Check.due("report", 12, b::report);
        Check.due("none of them can be undone", -1, b::undo);
        b.setTone(2, 1, 254);
        Check.due("a tone alone", 0, () -> b.height(2, 1));
        Check.due("a tone alone", 0, b::undo);
        Check.due("a tone alone", 255, () -> b.tone(2, 1));
        b.setHeight(2, 1, 1);
        Check.due("a height alone", 0, b::undo);
        Check.due("a height alone", 0, () -> b.height(2, 1));
    }

    @Sentence(of = "section 7", says = "the latest first; the latest 6 of them are kept")
    static void sixAreKept() {
        for (int calls = 0; calls <= 20; calls++) {
            ReliefBuilder b = Check.relief(ONE);
            for (int height = 1; height <= calls; height++) {
                b.setHeight(0, 0, height);
                b.setHeight(0, 0, height);
            }
            int kept = Math.min(calls, 6);
            for (int left = kept - 1; left >= 0; left--) {
                int l = left;
                Check.due(calls + " calls", l, b::undo);
                int height = calls - kept + l;
                Check.due(calls + " calls, height", height, () -> b.height(0, 0));
            }
            Check.due(calls + " calls, no more", -1, b::undo);
        }
    }

    @Sentence(of = "section 7", says = "Tones and heights are as before it then.")
    static void asBefore() {
        ReliefBuilder b = Check.relief(ONE);
        for (int height = 1; height <= 8; height++) {
            b.setHeight(0, 0, height);
        }
        b.undo();
        b.undo();
        b.setTone(0, 0, 77);
        int dark = b.height(0, 0);
        b.setHeight(0, 0, 20);
        Check.due("in between", 5, () -> undos(b, 1));
        Check.due("height", dark, () -> b.height(0, 0));
        Check.due("tone", 77, () -> b.tone(0, 0));
        Check.due("the tone, too", 4, b::undo);
        Check.due("tone", 255, () -> b.tone(0, 0));
        Check.due("height", 6, () -> b.height(0, 0));
        Check.due("to the oldest one that is kept", 0, () -> undos(b, 4));
        Check.due("height", 2, () -> b.height(0, 0));
        Check.due("no further", -1, b::undo);
        Check.due("height", 2, () -> b.height(0, 0));
    }

    private static int undos(ReliefBuilder b, int times) {
        for (int n = 1; n < times; n++) {
            b.undo();
        }
        return b.undo();
    }

    @Sentence(of = "section 7", says = "readText() and restore() forget them.")
    static void forgotten() {
        ReliefBuilder read = Whole.object("");
        Check.due("readText()", 0, read::readText);
        Check.due("readText()", -1, read::undo);
        ReliefBuilder wrong = Whole.object("wall 0;");
        Check.argument("a text with an error", wrong::readText);
        Check.due("forgets nothing", 2, wrong::undo);
        ReliefBuilder restored = Whole.object();
        Check.due("restore()", true, () -> restored.restore(0) > 0);
        Check.due("restore()", -1, restored::undo);
        ReliefBuilder same = Whole.object();
        same.save(1);
        Check.due("restore() of the present heights", 0, () -> same.restore(1));
        Check.due("restore() of the present heights", -1, same::undo);
        ReliefBuilder none = Whole.object();
        Check.state("restore() of nothing", () -> none.restore(1));
        Check.due("forgets nothing", 2, none::undo);
        ReliefBuilder again = Whole.object();
        again.restore(0);
        again.setHeight(0, 0, 9);
        Check.due("what follows can be undone", 0, again::undo);
        Check.due("that alone", -1, again::undo);
    }

    // ---- promises 61 and 62

    @Sentence(of = "promise 61", says = "Writes a report, in place of the one before")
    static void report() {
        ReliefBuilder b = Check.heights("steps 20 glass 80 base 0;", "0 9 10 / 20 11 1");
        b.report();
        Check.due("numbers of one digit and of two", "0 9 10\n20 11 1\n", () -> Check.reportText(b, 15));
        b.fill(0, 0, 3, 2, 0);
        Check.due("a shorter one", 12, b::report);
        Check.due("a shorter one", "0 0 0\n0 0 0\n", () -> Check.reportText(b, 12));
        Check.index("nothing of the one before", () -> b.reportByte(12));
        ReliefBuilder high = Check.heights("steps 20 glass 80 base 0;", "17 18 19 9");
        high.report();
        Check.due("numbers below 20", "17 18 19 9\n", () -> Check.reportText(high, 11));
        ReliefBuilder one = Check.relief("panel 1 1;");
        one.report();
        Check.due("one cell", "1\n", () -> Check.reportText(one, 2));
        ReliefBuilder column = Check.heights("", "1 / 2 / 3");
        column.report();
        Check.due("one column, from the uppermost row", "1\n2\n3\n", () -> Check.reportText(column, 6));
    }

    @Sentence(of = "promise 61", says = "@return the number of its bytes")
    static void lengthOfReport() {
        Check.due("the shortest", 2, () -> Check.relief("panel 1 1;").report());
        Check.due("one of two digits", 3, () -> Check.heights("steps 20 glass 80 base 0;", "10").report());
        Check.due("9", 2, () -> Check.heights("steps 20 glass 80 base 0;", "9").report());
        Check.due("the longest", 576, () -> Check.relief("panel 16 12;steps 20 glass 80 base 20;").report());
        Check.due("the longest of single digits", 384, () -> Check.relief("panel 16 12;").report());
    }

    @Sentence(of = "promise 62", says = "i: index of a byte, from 0")
    static void bytesOfReport() {
        ReliefBuilder b = Check.relief("panel 16 12;steps 20 glass 80 base 20;");
        b.report();
        Check.due("0", (int) '2', () -> b.reportByte(0));
        Check.due("1", (int) '0', () -> b.reportByte(1));
        Check.due("2", 32, () -> b.reportByte(2));
        Check.due("the end of the first row", 10, () -> b.reportByte(47));
        Check.due("574", (int) '0', () -> b.reportByte(574));
        Check.due("575, the last", 10, () -> b.reportByte(575));
        Check.index("576", () -> b.reportByte(576));
        Check.index("-1", () -> b.reportByte(-1));
    }

    @Sentence(of = "promise 62", says = "if there is no such byte, or there was no report")
    static void noByte() {
        ReliefBuilder b = new ReliefBuilder();
        Check.index("no report", () -> b.reportByte(0));
        b.report();
        Check.due("a report", 49, () -> b.reportByte(0));
        Check.due("its last byte", 10, () -> b.reportByte(31));
        Check.index("behind it", () -> b.reportByte(32));
        Whole.index("-1", w -> w.reportByte(-1));
        Whole.index("behind the last", w -> w.reportByte(12));
        Whole.index("the least int", w -> w.reportByte(Integer.MIN_VALUE));
        Whole.index("the greatest int", w -> w.reportByte(Integer.MAX_VALUE));
        Whole.still("the last", 10, w -> w.reportByte(11));
    }

    // ---- promise 63

    @Sentence(of = "promise 63", says = "Undoes the latest call that can be undone.")
    static void undo() {
        ReliefBuilder b = Check.relief("panel 2 1;steps 9 glass 80 base 0;");
        b.setHeight(0, 0, 3);
        b.setHeight(1, 0, 4);
        b.setHeight(1, 0, 4);
        b.report();
        b.save(1);
        b.undo();
        Check.due("the latest that changed something", "3 0", () -> Check.picture(b));
        b.setHeight(1, 0, 7);
        b.undo();
        Check.due("not what was undone before", "3 0", () -> Check.picture(b));
        b.undo();
        Check.due("the one before", "0 0", () -> Check.picture(b));
        b.setHeight(0, 0, 9);
        b.undo();
        Check.due("a new one", "0 0", () -> Check.picture(b));
        b.setHeight(0, 0, 9);
        b.putStamp(2, 0, 1, 1, 1);
        b.undo();
        Check.due("stamps stay", 1101, () -> b.stampAt(2, 0));
        Check.due("what was saved stays", 2, () -> b.restore(1));
    }

    @Sentence(of = "promise 63", says = "NONE, and nothing changes, if there is none")
    static void nothingToUndo() {
        Check.due("a new object", -1, () -> new ReliefBuilder().undo());
        ReliefBuilder b = Check.relief(ONE);
        b.setHeight(0, 0, 5);
        Check.due("the last one", 0, b::undo);
        b.report();
        b.save(0);
        b.putStamp(2, 0, 1, 1, 1);
        b.feed(0, 0, 0, 0, 0);
        String look = Check.look(b);
        Check.due("none", -1, b::undo);
        Check.due("none again", -1, b::undo);
        Check.due("nothing changes", look, () -> Check.look(b));
        Check.due("the report stays", (int) '0', () -> b.reportByte(0));
        Check.due("what is saved stays", 0, () -> b.restore(0));
        Check.due("the buffer stays", 20, () -> b.truncate(20));
        for (int height = 1; height <= 6; height++) {
            b.setHeight(0, 0, height);
        }
        Check.due("six more", 5, b::undo);
        Check.due("six more", 0, () -> undos(b, 5));
        Check.due("and none", -1, b::undo);
        Check.due("and none", 0, () -> b.height(0, 0));
    }

    // ---- promises 64 and 65

    @Sentence(of = "promise 64", says = "in place of what was saved there")
    static void save() {
        ReliefBuilder b = Check.relief(ONE);
        for (int slot = 0; slot < 2; slot++) {
            b.setHeight(0, 0, 3 + slot);
            b.save(slot);
        }
        b.setHeight(0, 0, 9);
        b.save(1);
        b.setHeight(0, 0, 20);
        Check.due("the other slot stays", 1, () -> b.restore(0));
        Check.due("the other slot stays", 3, () -> b.height(0, 0));
        Check.due("the later one is there", 1, () -> b.restore(1));
        Check.due("the later one is there", 9, () -> b.height(0, 0));
        Check.read(b, "panel 2 1;");
        b.save(1);
        Check.due("the later panel", 0, () -> b.restore(1));
        Check.state("the other slot is still of the first panel", () -> b.restore(0));
    }

    @Sentence(of = "promise 64", says = "slot: 0 or 1")
    static void slots() {
        ReliefBuilder b = Check.relief(ONE);
        Check.due("0", 0, () -> b.save(0));
        Check.due("1", 0, () -> b.save(1));
        Check.argument("2", () -> b.save(2));
        Check.argument("-1", () -> b.save(-1));
    }

    @Sentence(of = "promise 64", says = "Returns the volume.")
    static void volumeOfSave() {
        Check.due("nothing", 0, () -> Check.relief(ONE).save(0));
        Check.due("the most", 3840, () -> Check.relief("panel 16 12;steps 20 glass 80 base 20;").save(1));
        ReliefBuilder b = Check.heights("", "3 4");
        b.save(0);
        b.setHeight(0, 0, 8);
        Check.due("the present one", 12, () -> b.save(1));
    }

    @Sentence(of = "promise 64", says = "Throws IllegalArgumentException if slot is out of range")
    static void wrongSlot() {
        for (int slot : new int[] {-1, 2, 3, Integer.MIN_VALUE, Integer.MAX_VALUE}) {
            Whole.argument("slot " + slot, b -> b.save(slot));
        }
        Check.due("slot 1", true, () -> Whole.object().save(1) > 0);
    }

    @Sentence(of = "promise 65", says = "Restores the heights that were saved in a slot, which stay there.")
    static void restore() {
        ReliefBuilder b = Check.relief("panel 16 12;steps 20 glass 80 base 0;");
        b.setHeight(15, 11, 20);
        b.setHeight(0, 0, 7);
        b.save(0);
        b.fill(0, 0, 16, 12, 5);
        b.setTone(3, 3, 0);
        Check.due("all", 192, () -> b.restore(0));
        Check.due("the last cell", 20, () -> b.height(15, 11));
        Check.due("the first cell", 7, () -> b.height(0, 0));
        Check.due("the volume", 27, b::volume);
        Check.due("tones stay as they are", 0, () -> b.tone(3, 3));
        b.fill(0, 0, 16, 12, 6);
        Check.due("they stay there", 192, () -> b.restore(0));
        Check.due("they stay there", 27, b::volume);
        b.setHeight(15, 11, 1);
        Check.due("what follows does not change them", 1, () -> b.restore(0));
        Check.due("what follows does not change them", 27, b::volume);
    }

    @Sentence(of = "promise 65", says = "slot: 0 or 1")
    static void slotsToRestore() {
        ReliefBuilder b = Check.relief(ONE);
        b.save(0);
        b.setHeight(0, 0, 1);
        b.save(1);
        Check.due("0", 1, () -> b.restore(0));
        Check.due("1", 1, () -> b.restore(1));
        Check.argument("2", () -> b.restore(2));
        Check.argument("-1", () -> b.restore(-1));
    }

    @Sentence(of = "promise 65", says = "Returns the number of cells whose height changed.")
    static void countOfRestore() {
        ReliefBuilder b = Check.relief("panel 16 12;steps 20 glass 80 base 0;");
        b.save(0);
        Check.due("none", 0, () -> b.restore(0));
        b.setHeight(15, 11, 1);
        Check.due("one", 1, () -> b.restore(0));
        b.fill(0, 0, 16, 12, 20);
        Check.due("all", 192, () -> b.restore(0));
        b.setTone(0, 0, 254);
        Check.due("a tone does not count", 0, () -> b.restore(0));
    }

    @Sentence(of = "promise 65", says = "Throws IllegalArgumentException if slot is out of range")
    static void wrongSlotToRestore() {
        for (int slot : new int[] {-1, 2, 3, Integer.MIN_VALUE, Integer.MAX_VALUE}) {
            Whole.argument("slot " + slot, b -> b.restore(slot));
        }
        Check.argument("where nothing is saved at all", () -> new ReliefBuilder().restore(2));
        Check.due("slot 0", true, () -> Whole.object().restore(0) > 0);
    }

    @Sentence(of = "promise 65",
            says = "if nothing was saved there, or the width, the number of rows, the greatest height or")
    static void notToRestore() {
        Whole.state("nothing was saved there", b -> b.restore(1));
        Check.state("nothing at all", () -> new ReliefBuilder().restore(0));
        String[] others = {"panel 2 2;steps 9 glass 80 base 1;", "panel 4 2;steps 9 glass 80 base 1;",
            "panel 3 1;steps 9 glass 80 base 1;", "panel 3 3;steps 9 glass 80 base 1;",
            "panel 2 3;steps 9 glass 80 base 1;",
            "panel 3 2;steps 8 glass 80 base 1;", "panel 3 2;steps 10 glass 80 base 1;",
            "panel 3 2;steps 9 glass 80 base 0;", "panel 3 2;steps 9 glass 80 base 2;"};
        for (String other : others) {
            ReliefBuilder b = Check.relief("panel 3 2;steps 9 glass 80 base 1;");
            b.setHeight(2, 1, 5);
            b.save(0);
            Check.read(b, other);
            Check.still(other, b, () -> Check.state(other, () -> b.restore(0)));
            Check.read(b, "panel 3 2;steps 9 glass 11 base 1;wall 4;slope 9;row 0 0 0;");
            Check.due("glass, wall, slope and tones may be others", 4, () -> b.restore(0));
            Check.due("heights", "1 1 5 / 1 1 1", () -> Check.picture(b));
        }
    }
}
