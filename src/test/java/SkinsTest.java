/** Promises 1 to 5: a new object, lay, mark, cell, skin; a test for each sentence. */
public final class SkinsTest {
    public static void main(String[] args) {
        Check.runAll(SkinsTest.class, args);
    }

    // ---- promise 1: a new object

    static void promise1ANewObjectCountsNothing() {
        GloveCutters x = new GloveCutters();
        for (int what = 0; what <= 6; what++) {
            Check.same("new: count(" + what + ")", 0, x.count(what));
        }
    }

    static void promise1ANewObjectHasNoSkins() {
        GloveCutters x = new GloveCutters();
        Check.refused(x, "new: mark", Check.INDEX, () -> x.mark(0, 0, 0, 1, 1, 1));
        Check.refused(x, "new: cell", Check.INDEX, () -> x.cell(0, 0, 0));
        Check.refused(x, "new: skin", Check.INDEX, () -> x.skin(0, 0));
        Check.refused(x, "new: cut", Check.INDEX, () -> x.cut(0, 3, false, 0, 0));
        Check.refused(x, "new: place", Check.INDEX, () -> x.place(0, 3, false));
        Check.refused(x, "new: gives", Check.INDEX, () -> x.gives(0, 3, false));
    }

    static void promise1ANewObjectHasNoPieces() {
        GloveCutters x = new GloveCutters();
        for (int what = 0; what <= 3; what++) {
            int told = what;
            Check.refused(x, "new: piece(0, " + what + ")", Check.INDEX, () -> x.piece(0, told));
        }
        Check.refused(x, "new: sew", Check.STATE, () -> x.sew(0));
    }

    static void promise1ANewObjectHasNoPairs() {
        GloveCutters x = new GloveCutters();
        for (int what = 0; what <= 4; what++) {
            int told = what;
            Check.refused(x, "new: pair(0, " + what + ")", Check.INDEX, () -> x.pair(0, told));
        }
        Check.refused(x, "new: rip", Check.INDEX, () -> x.rip(0));
    }

    static void promise1TwoObjectsShareNothing() {
        GloveCutters x = Workshop.laid(1, 0);
        long before = x.digest();
        GloveCutters other = Workshop.with20Pairs();
        Check.same("count(0) of the first", 1, x.count(0));
        Check.same("digest of the first", before, x.digest());
        x.cut(0, 0, false, 0, 0);
        Check.same("count(1) of the other", 128, other.count(1));
        Check.same("a third is new", 0, new GloveCutters().count(0));
    }

    // ---- promise 2: lay

    static void promise2SkinsAreNumberedFrom0() {
        GloveCutters x = new GloveCutters();
        int[] colours = {0, 5, 3, 3, 1, 2, 4, 0, 5, 2};
        for (int skin = 0; skin < 10; skin++) {
            Check.same("lay " + skin, skin, x.lay(colours[skin]));
            Check.same("count(0) after lay " + skin, skin + 1, x.count(0));
        }
        for (int skin = 0; skin < 10; skin++) {
            Check.same("colour of " + skin, colours[skin], x.skin(skin, 0));
        }
    }

    static void promise2ColourNot0To5() {
        GloveCutters x = new GloveCutters();
        Check.refusedOutside(x, "lay", 0, 5, Check.ARGUMENT, x::lay);
        for (int colour = 0; colour <= 5; colour++) {
            Check.same("lay(" + colour + ")", colour, x.lay(colour));
        }
    }

    static void promise2ThereAre10() {
        GloveCutters x = Workshop.laid(9, 1);
        Check.same("the tenth", 9, x.lay(1));
        for (int colour = 0; colour <= 5; colour++) {
            int one = colour;
            Check.refused(x, "an eleventh of colour " + colour, Check.STATE, () -> x.lay(one));
        }
    }

    static void promise2ColourIsNamedBeforeThe10() {
        GloveCutters x = Workshop.laid(10, 1);
        Check.refusedOutside(x, "an eleventh of colour", 0, 5, Check.ARGUMENT, x::lay);
    }

    static void promise2ARefusedSkinTakesNoNumber() {
        GloveCutters x = new GloveCutters();
        Check.refused(x, "lay(6)", Check.ARGUMENT, () -> x.lay(6));
        Check.same("lay(5) after it", 0, x.lay(5));
        Check.refused(x, "lay(-1)", Check.ARGUMENT, () -> x.lay(-1));
        Check.same("lay(0) after it", 1, x.lay(0));
    }

    static void promise2CellsAreWholeAndNotCutAtFirst() {
        GloveCutters x = Workshop.laid(10, 3);
        for (int skin = 0; skin < 10; skin += 9) {
            for (int at = 0; at < 96; at++) {
                Check.same("new skin " + skin + ", cell " + at, 0, x.cell(skin, at % 12, at / 12));
            }
        }
        for (int skin = 0; skin < 10; skin++) {
            Check.same("whole cells of new skin " + skin, 96, x.skin(skin, 1));
        }
    }

    // ---- promise 3: mark

    static void promise3NoSuchSkin() {
        GloveCutters x = Workshop.laid(2, 0);
        Check.refusedOutside(x, "mark: skin", 0, 1, Check.INDEX, skin -> x.mark(skin, 0, 0, 1, 1, 1));
        Check.same("mark the first of two", 1, x.mark(0, 0, 0, 1, 1, 1));
        Check.same("mark the second of two", 1, x.mark(1, 0, 0, 1, 1, 1));
        GloveCutters full = Workshop.laid(10, 0);
        Check.refusedOutside(full, "of 10, mark: skin", 0, 9, Check.INDEX, skin -> full.mark(skin, 0, 0, 1, 1, 1));
        Check.same("mark the last of 10", 1, full.mark(9, 0, 0, 1, 1, 1));
    }

    static void promise3XNot0To11() {
        GloveCutters x = Workshop.laid(1, 0);
        for (int y = 0; y <= 7; y++) {
            int row = y;
            Check.refusedOutside(x, "mark: row " + y + ", x", 0, 11, Check.INDEX, cx -> x.mark(0, cx, row, 1, 1, 1));
        }
        for (int cx = 0; cx <= 11; cx++) {
            Check.same("mark: x " + cx, 1, x.mark(0, cx, 3, 1, 1, 1));
        }
    }

    static void promise3YNot0To7() {
        GloveCutters x = Workshop.laid(1, 0);
        for (int cx = 0; cx <= 11; cx++) {
            int column = cx;
            Check.refusedOutside(x, "mark: column " + cx + ", y", 0, 7, Check.INDEX, y -> x.mark(0, column, y, 1, 1, 1));
        }
        for (int y = 0; y <= 7; y++) {
            Check.same("mark: y " + y, 1, x.mark(0, 3, y, 1, 1, 1));
        }
    }

    static void promise3WideNot1To12LessX() {
        GloveCutters x = Workshop.laid(1, 0);
        for (int cx = 0; cx <= 11; cx++) {
            int left = cx;
            Check.refusedOutside(x, "mark: x " + cx + ", wide", 1, 12 - cx, Check.ARGUMENT,
                    wide -> x.mark(0, left, 3, wide, 1, 1));
            Check.same("mark: x " + cx + ", as wide as can be", 12 - cx, x.mark(0, cx, 3, 12 - cx, 1, 1));
            Check.same("mark: x " + cx + ", wide 1", 1, x.mark(0, cx, 3, 1, 1, 2));
            x.mark(0, 0, 3, 12, 1, 0);
        }
    }

    static void promise3HighNot1To8LessY() {
        GloveCutters x = Workshop.laid(1, 0);
        for (int y = 0; y <= 7; y++) {
            int top = y;
            Check.refusedOutside(x, "mark: y " + y + ", high", 1, 8 - y, Check.ARGUMENT,
                    high -> x.mark(0, 3, top, 1, high, 1));
            Check.same("mark: y " + y + ", as high as can be", 8 - y, x.mark(0, 3, y, 1, 8 - y, 1));
            Check.same("mark: y " + y + ", high 1", 1, x.mark(0, 3, y, 1, 1, 2));
            x.mark(0, 3, 0, 1, 8, 0);
        }
    }

    static void promise3HowNot0To2() {
        GloveCutters x = Workshop.laid(1, 0);
        Check.refusedOutside(x, "mark: how", 0, 2, Check.ARGUMENT, how -> x.mark(0, 0, 0, 1, 1, how));
        for (int how = 2; how >= 0; how--) {
            Check.same("mark: how " + how, 1, x.mark(0, 0, 0, 1, 1, how));
            Check.same("the cell marked " + how, how, x.cell(0, 0, 0));
        }
    }

    static void promise3ACellOfItIsCut() {
        for (int at = 0; at < 6; at++) {
            GloveCutters x = Workshop.laid(1, 0);
            x.cut(0, 3, false, 4 + at % 3, 3 + at / 3);
            for (int how = 0; how <= 2; how++) {
                int one = how;
                Check.refused(x, "mark " + how + " with cut cell " + at, Check.STATE, () -> x.mark(0, 4, 3, 3, 2, one));
            }
            Check.refused(x, "mark all with cut cell " + at, Check.STATE, () -> x.mark(0, 0, 0, 12, 8, 1));
        }
    }

    static void promise3CellsRoundItMayBeCut() {
        GloveCutters x = Workshop.laid(2, 0);
        for (int at = 0; at < 20; at++) {
            int cx = 3 + at % 5;
            int cy = 2 + at / 5;
            if (cx == 3 || cx == 7 || cy == 2 || cy == 5) {
                x.cut(0, 3, false, cx, cy);
            }
        }
        Check.same("mark inside a ring of cut cells", 6, x.mark(0, 4, 3, 3, 2, 1));
        Check.same("mark all of the other skin", 96, x.mark(1, 0, 0, 12, 8, 2));
    }

    static void promise3ReturnsHowManyWereOtherwise() {
        GloveCutters x = Workshop.laid(1, 0);
        Check.same("whole as they are", 0, x.mark(0, 0, 0, 12, 8, 0));
        Check.same("whole to thin", 6, x.mark(0, 1, 2, 3, 2, 1));
        Check.same("thin as they are", 0, x.mark(0, 1, 2, 3, 2, 1));
        Check.same("one thin and three whole to holes", 4, x.mark(0, 3, 3, 2, 2, 2));
        Check.same("thin, holes and whole to thin", 3, x.mark(0, 2, 2, 2, 3, 1));
        Check.same("a hole to whole", 1, x.mark(0, 4, 3, 1, 1, 0));
        Check.same("all to holes", 95, x.mark(0, 0, 0, 12, 8, 2));
        Check.same("holes as they are", 0, x.mark(0, 0, 0, 12, 8, 2));
        Check.same("all holes to thin", 96, x.mark(0, 0, 0, 12, 8, 1));
        Check.same("all thin to whole", 96, x.mark(0, 0, 0, 12, 8, 0));
    }

    static void promise3MarksThatPartAlone() {
        int[][] parts = {{2, 1, 3, 2}, {0, 0, 1, 1}, {11, 7, 1, 1}, {0, 7, 12, 1}, {11, 0, 1, 8}};
        for (int[] part : parts) {
            GloveCutters x = Workshop.laid(3, 0);
            x.mark(1, part[0], part[1], part[2], part[3], 1);
            for (int at = 0; at < 96; at++) {
                int dx = at % 12 - part[0];
                int dy = at / 12 - part[1];
                boolean inside = dx >= 0 && dx < part[2] && dy >= 0 && dy < part[3];
                Check.same("cell " + at + " beside a marked part", inside ? 1 : 0, x.cell(1, at % 12, at / 12));
            }
            Check.same("the skin before it", 96, x.skin(0, 1));
            Check.same("the skin behind it", 96, x.skin(2, 1));
        }
    }

    static void promise3NoSuchSkinOrCellIsNamedFirst() {
        GloveCutters x = Workshop.laid(1, 0);
        x.cut(0, 3, false, 0, 0);
        int[][] places = {{1, 0, 0}, {-1, 0, 0}, {0, 12, 0}, {0, -1, 0}, {0, 0, 8}, {0, 0, -1}};
        int[][] others = {{0, 1, 1}, {13, 1, 1}, {1, 0, 1}, {1, 9, 1}, {1, 1, -1}, {1, 1, 3}};
        for (int[] p : places) {
            for (int[] o : others) {
                Check.refused(x, "mark: no such cell, and a wrong part", Check.INDEX,
                        () -> x.mark(p[0], p[1], p[2], o[0], o[1], o[2]));
            }
        }
    }

    static void promise3AWrongPartIsNamedBeforeACutCell() {
        GloveCutters x = Workshop.laid(1, 0);
        x.cut(0, 3, false, 0, 0);
        int[][] parts = {{13, 1, 1}, {1, 9, 1}, {1, 1, -1}, {1, 1, 3}, {0, 1, 1}, {1, 0, 1}};
        for (int[] p : parts) {
            Check.refused(x, "mark: a wrong part with a cut cell", Check.ARGUMENT, () -> x.mark(0, 0, 0, p[0], p[1], p[2]));
        }
    }

    // ---- promise 4: cell

    static void promise4NoSuchSkin() {
        GloveCutters x = Workshop.laid(2, 0);
        Check.refusedOutside(x, "cell: skin", 0, 1, Check.INDEX, skin -> x.cell(skin, 0, 0));
        GloveCutters full = Workshop.laid(10, 0);
        Check.refusedOutside(full, "of 10, cell: skin", 0, 9, Check.INDEX, skin -> full.cell(skin, 0, 0));
        full.mark(9, 0, 0, 1, 1, 1);
        Check.same("cell of the last of 10", 1, full.cell(9, 0, 0));
    }

    static void promise4XNot0To11() {
        GloveCutters x = Workshop.laid(1, 0);
        for (int y = 0; y <= 7; y++) {
            int row = y;
            Check.refusedOutside(x, "cell: row " + y + ", x", 0, 11, Check.INDEX, cx -> x.cell(0, cx, row));
        }
        for (int cx = 0; cx <= 11; cx++) {
            Check.same("cell: x " + cx, 0, x.cell(0, cx, 3));
        }
    }

    static void promise4YNot0To7() {
        GloveCutters x = Workshop.laid(1, 0);
        for (int cx = 0; cx <= 11; cx++) {
            int column = cx;
            Check.refusedOutside(x, "cell: column " + cx + ", y", 0, 7, Check.INDEX, y -> x.cell(0, column, y));
        }
        for (int y = 0; y <= 7; y++) {
            Check.same("cell: y " + y, 0, x.cell(0, 3, y));
        }
    }

    static void promise4TellsEachCell() {
        GloveCutters x = Workshop.laid(2, 0);
        for (int at = 0; at < 96; at++) {
            x.mark(1, at % 12, at / 12, 1, 1, (at + at / 5) % 3);
        }
        for (int at = 0; at < 96; at++) {
            Check.same("cell " + at, (at + at / 5) % 3, x.cell(1, at % 12, at / 12));
        }
    }

    static void promise4CutIsToldOfAWholeAndOfAThinCell() {
        GloveCutters x = Workshop.laid(1, 0);
        x.mark(0, 4, 0, 1, 1, 1);
        x.cut(0, 3, false, 3, 0);
        x.cut(0, 3, false, 4, 0);
        Check.same("whole and cut", 3, x.cell(0, 3, 0));
        Check.same("thin and cut", 3, x.cell(0, 4, 0));
    }

    // ---- promise 5: skin

    static void promise5NoSuchSkin() {
        GloveCutters x = Workshop.laid(2, 0);
        for (int what = 0; what <= 5; what++) {
            int told = what;
            Check.refusedOutside(x, "skin(.., " + what + ")", 0, 1, Check.INDEX, skin -> x.skin(skin, told));
        }
        GloveCutters full = Workshop.laid(10, 4);
        Check.refusedOutside(full, "of 10, skin", 0, 9, Check.INDEX, skin -> full.skin(skin, 0));
        Check.same("the last of 10", 4, full.skin(9, 0));
    }

    static void promise5WhatNot0To5() {
        GloveCutters x = Workshop.laid(1, 4);
        Check.refusedOutside(x, "skin: what", 0, 5, Check.INDEX, what -> x.skin(0, what));
        Check.same("what 0", 4, x.skin(0, 0));
        x.cut(0, 3, false, 0, 0);
        Check.same("what 5", 1, x.skin(0, 5));
    }

    private static void tells(GloveCutters x, String of, int skin, int... due) {
        for (int what = 0; what <= 5; what++) {
            Check.same(of + ": skin(" + skin + ", " + what + ")", due[what], x.skin(skin, what));
        }
    }

    static void promise5OfASkinAllOfOneSort() {
        GloveCutters x = Workshop.laid(4, 2);
        x.mark(1, 0, 0, 12, 8, 1);
        x.mark(2, 0, 0, 12, 8, 2);
        Workshop.cutQuirks(x, 3, 96);
        tells(x, "all whole", 0, 2, 96, 0, 0, 0, 0);
        tells(x, "all thin", 1, 2, 0, 96, 0, 0, 0);
        tells(x, "all holes", 2, 2, 0, 0, 96, 0, 0);
        tells(x, "all cut", 3, 2, 0, 0, 0, 96, 96);
    }

    static void promise5OfASkinOfAllSorts() {
        GloveCutters x = new GloveCutters();
        x.lay(4);
        x.lay(2);
        x.mark(1, 0, 0, 2, 1, 1);
        x.mark(1, 4, 4, 3, 1, 2);
        x.cut(1, 1, false, 1, 0);
        x.cut(1, 3, false, 11, 7);
        // of the two thin cells one is cut, and tells of itself as cut alone
        tells(x, "of all sorts", 1, 2, 96 - 1 - 3 - 5, 1, 3, 5, 2);
        tells(x, "the other skin", 0, 4, 96, 0, 0, 0, 0);
    }

    static void promise5PiecesStayCutFromItWhenTheyAreSewnOrLost() {
        GloveCutters x = Workshop.laid(1, 0);
        Workshop.cutPair(x, 0);
        tells(x, "cut", 0, 0, 96 - 54, 0, 0, 54, 14);
        x.sew(0);
        tells(x, "sewn", 0, 0, 96 - 54, 0, 0, 54, 14);
        x.rip(0);
        tells(x, "ripped up", 0, 0, 96 - 54, 0, 0, 54, 14);
    }
}
