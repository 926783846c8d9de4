/** Promises 61 to 65: reports, undo, what is saved. */
public final class KeepTest {
    public static void main(String[] args) {
        report();
        longestReport();
        undo();
        undoSix();
        undoOfAll();
        notUndone();
        forgets();
        save();
        restoreErrors();
        Check.end("KeepTest");
    }

    private static void report() {
        ReliefBuilder b = Check.heights("steps 20 glass 80 base 0;", "0 9 10 / 20 5 1");
        Check.index("62: no report", () -> b.reportByte(0));
        Check.due("61: bytes", 14, b::report);
        Check.due("62: bytes", "0 9 10\n20 5 1\n", () -> Check.reportText(b, 14));
        Check.index("62: 14", () -> b.reportByte(14));
        Check.index("62: -1", () -> b.reportByte(-1));
        Check.index("62: least", () -> b.reportByte(Integer.MIN_VALUE));
        Check.index("62: greatest", () -> b.reportByte(Integer.MAX_VALUE));
        b.fill(0, 0, 3, 2, 7);
        Check.due("62: it stays", '2' + 0, () -> b.reportByte(7));
        Check.due("61: in place of it", 12, b::report);
        Check.due("62: in place of it", "7 7 7\n7 7 7\n", () -> Check.reportText(b, 12));
        Check.index("62: shorter now", () -> b.reportByte(12));
        ReliefBuilder high = Check.heights("steps 20 glass 80 base 0;", "18 19 10 11");
        Check.due("61: two digits", 12, high::report);
        Check.due("62: two digits", "18 19 10 11\n", () -> Check.reportText(high, 12));
        ReliefBuilder one = Check.relief("panel 1 1;");
        Check.due("61: one cell", 2, one::report);
        Check.due("62: one cell", "1\n", () -> Check.reportText(one, 2));
        Check.still("61: reports", b, b::report);
    }

    private static void longestReport() {
        ReliefBuilder b = Check.relief("panel 16 12;steps 20 glass 80 base 20;");
        Check.due("61: longest", 576, b::report);
        Check.due("62: last", 10, () -> b.reportByte(575));
        Check.due("62: last number", (int) '0', () -> b.reportByte(574));
        Check.index("62: behind it", () -> b.reportByte(576));
    }

    private static void undo() {
        ReliefBuilder b = Check.relief("panel 3 1;steps 9 glass 80 base 0;");
        Check.due("63: none", -1, b::undo);
        b.setHeight(0, 0, 3);
        b.setTone(1, 0, 0);
        b.setHeight(0, 0, 5);
        Check.due("63: the latest", 2, b::undo);
        Check.due("63: the latest", "3 9 0", () -> Check.picture(b));
        Check.due("63: the one before", 1, b::undo);
        Check.due("63: heights", "3 0 0", () -> Check.picture(b));
        Check.due("63: tones", "255 255 255", () -> Check.tones(b));
        b.setHeight(2, 0, 7);
        Check.due("63: a new one", 1, b::undo);
        Check.due("63: a new one", "3 0 0", () -> Check.picture(b));
        Check.due("63: the first", 0, b::undo);
        Check.due("63: the first", "0 0 0", () -> Check.picture(b));
        Check.still("63: no more", b, () -> Check.due("63: no more", -1, b::undo));
    }

    private static void undoSix() {
        ReliefBuilder b = Check.relief("panel 1 1;steps 20 glass 80 base 0;");
        for (int h = 1; h <= 9; h++) {
            b.setHeight(0, 0, h);
            b.setHeight(0, 0, h);
        }
        for (int left = 5; left >= 0; left--) {
            int want = left;
            Check.due("63: left", want, b::undo);
            Check.due("63: height", want + 3, () -> b.height(0, 0));
        }
        Check.due("63: six are kept", -1, b::undo);
        Check.due("63: height", 3, () -> b.height(0, 0));
        for (int h = 4; h <= 8; h++) {
            b.setHeight(0, 0, h);
        }
        Check.due("63: again", 4, b::undo);
        Check.due("63: again", 7, () -> b.height(0, 0));
    }

    private static void undoOfAll() {
        String text = "panel 4 3;steps 9 glass 70 base 1;row 9 99 180 30;row 70 200 5 120;row 255 0 66 130;";
        String[] names = {"setTone", "setHeight", "fill", "repair", "smooth", "ease", "dither", "polish", "invert",
            "lighten", "mirror", "stamp"};
        for (String name : names) {
            ReliefBuilder b = Check.relief(text);
            b.putStamp(2, 2, 0, 3, 4);
            String before = Check.look(b);
            call(b, name);
            Check.due("63: " + name + " changes something", false, () -> before.equals(Check.look(b)));
            Check.due("63: " + name, 0, b::undo);
            Check.due("63: " + name, before, () -> Check.look(b));
            Check.due("63: " + name + " alone", -1, b::undo);
        }
    }

    private static void call(ReliefBuilder b, String name) {
        switch (name) {
            case "setTone" -> b.setTone(1, 1, 9);
            case "setHeight" -> b.setHeight(1, 1, 9);
            case "fill" -> b.fill(1, 1, 2, 2, 4);
            case "repair" -> b.repair();
            case "smooth" -> b.smooth(1);
            case "ease" -> b.ease();
            case "dither" -> b.dither();
            case "polish" -> b.polish();
            case "invert" -> b.invert();
            case "lighten" -> b.lighten(40);
            case "mirror" -> b.mirror();
            default -> b.stamp(2, 2, 1, 0);
        }
    }

    private static void notUndone() {
        ReliefBuilder b = Check.relief("panel 3 2;steps 8 glass 80 base 0;");
        b.putStamp(2, 0, 0, 2, 2);
        b.setTone(0, 0, 255);
        b.setHeight(0, 0, 0);
        b.fill(0, 0, 3, 2, 0);
        b.repair();
        b.smooth(20);
        b.ease();
        b.dither();
        b.polish();
        b.lighten(0);
        b.lighten(255);
        b.mirror();
        b.stamp(2, 0, 0, 0);
        b.takeStamp(2, 0);
        b.report();
        b.save(0);
        Check.due("63: nothing has changed", -1, b::undo);
        b.setTone(2, 1, 254);
        Check.due("63: a tone alone", 0, () -> b.height(2, 1));
        Check.due("63: a tone alone", 0, b::undo);
        Check.due("63: a tone alone", 255, () -> b.tone(2, 1));
    }

    private static void forgets() {
        ReliefBuilder b = Check.relief("panel 3 2;");
        b.setHeight(0, 0, 3);
        b.save(0);
        b.setHeight(0, 0, 4);
        Check.due("65: restore() forgets", 1, () -> b.restore(0));
        Check.due("65: restore() forgets", -1, b::undo);
        b.setHeight(0, 0, 4);
        b.save(0);
        Check.due("65: even if nothing changes", 0, () -> b.restore(0));
        Check.due("65: even if nothing changes", -1, b::undo);
        b.setHeight(0, 0, 5);
        Check.state("65: but not if it fails", () -> b.restore(1));
        Check.due("65: but not if it fails", 0, b::undo);
        b.setHeight(0, 0, 5);
        Check.read(b, "panel 3 2;");
        Check.due("63: readText() forgets", -1, b::undo);
        Check.due("63: readText() forgets", 1, () -> b.height(0, 0));
    }

    private static void save() {
        ReliefBuilder b = Check.heights("steps 9 glass 80 base 0;row 9 9;", "1 2 / 3 4");
        Check.due("64: volume", 10, () -> b.save(0));
        b.fill(0, 0, 2, 1, 7);
        Check.due("64: volume", 17, () -> b.save(1));
        b.fill(0, 0, 2, 2, 2);
        b.setTone(0, 0, 77);
        Check.due("65: changed", 3, () -> b.restore(0));
        Check.due("65: heights", "1 2 / 3 4", () -> Check.picture(b));
        Check.due("65: tones stay", "255 255 / 77 9", () -> Check.tones(b));
        Check.due("65: changed", 2, () -> b.restore(1));
        Check.due("65: heights", "1 2 / 7 7", () -> Check.picture(b));
        Check.due("65: it stays there", 2, () -> b.restore(0));
        Check.due("65: it stays there", 0, () -> b.restore(0));
        b.setHeight(0, 1, 9);
        Check.due("64: in place of it", 18, () -> b.save(0));
        b.setHeight(0, 1, 0);
        Check.due("65: in place of it", 1, () -> b.restore(0));
        Check.due("65: in place of it", "9 2 / 3 4", () -> Check.picture(b));
        Check.still("64, 65: wrong slots", b, () -> {
            Check.argument("64: 2", () -> b.save(2));
            Check.argument("64: -1", () -> b.save(-1));
            Check.argument("65: 2", () -> b.restore(2));
            Check.argument("65: -1", () -> b.restore(-1));
        });
    }

    private static void restoreErrors() {
        ReliefBuilder b = Check.relief("panel 3 2;steps 9 glass 80 base 1;");
        b.setHeight(0, 0, 5);
        b.save(1);
        Check.state("65: nothing was saved there", () -> b.restore(0));
        String[] others = {"panel 2 2;steps 9 glass 80 base 1;", "panel 3 3;steps 9 glass 80 base 1;",
            "panel 3 2;steps 8 glass 80 base 1;", "panel 3 2;steps 9 glass 80 base 0;", "panel 2 3;"};
        for (String other : others) {
            Check.read(b, other);
            Check.still("65: " + other, b, () -> Check.state("65: " + other, () -> b.restore(1)));
        }
        Check.read(b, "panel 3 2;steps 9 glass 20 base 1;wall 4;slope 7;row 0 0 0;");
        Check.due("65: glass, wall and slope may be others", 3, () -> b.restore(1));
        Check.due("65: heights", "1 1 1 / 5 1 1", () -> Check.picture(b));
        Check.due("65: tones stay", "255 255 255 / 0 0 0", () -> Check.tones(b));
    }
}
