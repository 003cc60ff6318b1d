/** Promises 6 to 8: cut, place, piece; a test for each sentence. */
public final class PiecesTest {
    private static final int[] MOST_THIN = {0, 1, 1, 3};

    interface KindTest {
        void run(int kind, boolean turned, int wide, int high);
    }

    public static void main(String[] args) {
        Check.runAll(PiecesTest.class, args);
    }

    private static void forEachKind(KindTest test) {
        for (int kind = 0; kind <= 3; kind++) {
            for (boolean turned : Workshop.BOTH_WAYS) {
                test.run(kind, turned, Workshop.wide(kind, turned), Workshop.high(kind, turned));
            }
        }
    }

    // ---- promise 6: cut

    static void promise6NoSuchSkin() {
        GloveCutters x = Workshop.laid(2, 0);
        Check.refusedOutside(x, "cut: skin", 0, 1, Check.INDEX, skin -> x.cut(skin, 3, false, 0, 0));
        Check.same("cut of the first of two", 0, x.cut(0, 3, false, 0, 0));
        Check.same("cut of the second of two", 1, x.cut(1, 3, false, 0, 0));
        GloveCutters full = Workshop.laid(10, 0);
        Check.refusedOutside(full, "of 10, cut: skin", 0, 9, Check.INDEX, skin -> full.cut(skin, 3, false, 0, 0));
        Check.same("cut of the last of 10", 0, full.cut(9, 3, false, 0, 0));
    }

    static void promise6XNot0To11() {
        for (int kind = 0; kind <= 3; kind++) {
            int one = kind;
            GloveCutters x = Workshop.laid(1, 0);
            for (int y = 0; y <= 7; y++) {
                int row = y;
                Check.refusedOutside(x, "cut: kind " + kind + ", row " + y + ", x", 0, 11, Check.INDEX,
                        cx -> x.cut(0, one, false, cx, row));
            }
        }
    }

    static void promise6YNot0To7() {
        for (int kind = 0; kind <= 3; kind++) {
            int one = kind;
            GloveCutters x = Workshop.laid(1, 0);
            for (int cx = 0; cx <= 11; cx++) {
                int column = cx;
                Check.refusedOutside(x, "cut: kind " + kind + ", column " + cx + ", y", 0, 7, Check.INDEX,
                        y -> x.cut(0, one, true, column, y));
            }
        }
    }

    static void promise6KindNot0To3() {
        GloveCutters x = Workshop.laid(1, 0);
        for (boolean turned : Workshop.BOTH_WAYS) {
            Check.refusedOutside(x, "cut: kind", 0, 3, Check.ARGUMENT, kind -> x.cut(0, kind, turned, 0, 0));
        }
        int[] columns = {0, 4, 6, 7};
        for (int kind = 0; kind <= 3; kind++) {
            Check.same("cut of kind " + kind, kind, x.cut(0, kind, false, columns[kind], 0));
        }
    }

    static void promise6CutsTheCellsOfItsKind() {
        forEachKind((kind, turned, wide, high) -> {
            GloveCutters x = Workshop.laid(2, 0);
            x.cut(1, kind, turned, 3, 2);
            for (int at = 0; at < 96; at++) {
                int dx = at % 12 - 3;
                int dy = at / 12 - 2;
                boolean inside = dx >= 0 && dx < wide && dy >= 0 && dy < high;
                Check.same(Workshop.named(kind, turned) + ", cell " + at, inside ? 3 : 0, x.cell(1, at % 12, at / 12));
            }
            Check.same("the other skin", 0, x.skin(0, 4));
        });
    }

    static void promise6OverTheRightEdge() {
        forEachKind((kind, turned, wide, high) -> {
            GloveCutters x = Workshop.laid(1, 0);
            for (int cx = 13 - wide; cx <= 11; cx++) {
                for (int y = 0; y <= 8 - high; y++) {
                    int left = cx;
                    int top = y;
                    Check.refused(x, Workshop.named(kind, turned) + " over the right edge at " + cx + " " + y, Check.STATE,
                            () -> x.cut(0, kind, turned, left, top));
                }
            }
            Check.same(Workshop.named(kind, turned) + " at the right edge", 0, x.cut(0, kind, turned, 12 - wide, 1));
        });
    }

    static void promise6OverTheLowerEdge() {
        forEachKind((kind, turned, wide, high) -> {
            GloveCutters x = Workshop.laid(1, 0);
            for (int y = 9 - high; y <= 7; y++) {
                for (int cx = 0; cx <= 12 - wide; cx++) {
                    int left = cx;
                    int top = y;
                    Check.refused(x, Workshop.named(kind, turned) + " over the lower edge at " + cx + " " + y, Check.STATE,
                            () -> x.cut(0, kind, turned, left, top));
                }
            }
            Check.same(Workshop.named(kind, turned) + " at the lower edge", 0, x.cut(0, kind, turned, 1, 8 - high));
        });
    }

    static void promise6InTheFourCorners() {
        forEachKind((kind, turned, wide, high) -> {
            GloveCutters x = Workshop.laid(1, 0);
            Check.same("upper left", 0, x.cut(0, kind, turned, 0, 0));
            Check.same("upper right", 1, x.cut(0, kind, turned, 12 - wide, 0));
            Check.same("lower left", 2, x.cut(0, kind, turned, 0, 8 - high));
            Check.same("lower right", 3, x.cut(0, kind, turned, 12 - wide, 8 - high));
            Check.same("four pieces of cells", 4 * wide * high, x.skin(0, 4));
        });
    }

    static void promise6NoneOfItsCellsIsAHole() {
        forEachKind((kind, turned, wide, high) -> {
            GloveCutters x = Workshop.laid(1, 0);
            for (int at = 0; at < wide * high; at++) {
                x.mark(0, 4 + at % wide, 4 + at / wide, 1, 1, 2);
                Check.refused(x, Workshop.named(kind, turned) + ", cell " + at + " a hole", Check.STATE,
                        () -> x.cut(0, kind, turned, 4, 4));
                x.mark(0, 4 + at % wide, 4 + at / wide, 1, 1, 0);
            }
            Check.same(Workshop.named(kind, turned) + " without a hole", 0, x.cut(0, kind, turned, 4, 4));
        });
    }

    static void promise6NoneOfItsCellsIsCut() {
        forEachKind((kind, turned, wide, high) -> {
            for (int at = 0; at < wide * high; at++) {
                GloveCutters x = Workshop.laid(1, 0);
                x.cut(0, 3, false, 4 + at % wide, 4 + at / wide);
                Check.refused(x, Workshop.named(kind, turned) + ", cell " + at + " cut", Check.STATE,
                        () -> x.cut(0, kind, turned, 4, 4));
            }
        });
    }

    static void promise6CellsRoundItMayBeHoles() {
        forEachKind((kind, turned, wide, high) -> {
            GloveCutters x = Workshop.laid(2, 0);
            x.mark(0, 0, 0, 12, 8, 2);
            Workshop.holesBut(x, 1, 5, 3, wide, high);
            Check.same(Workshop.named(kind, turned) + " between holes", 0, x.cut(1, kind, turned, 5, 3));
            Check.same("no cell is left", 0, x.skin(1, 1));
        });
    }

    static void promise6CellsRoundItMayBeCut() {
        forEachKind((kind, turned, wide, high) -> {
            GloveCutters x = Workshop.laid(1, 0);
            int quirks = 0;
            for (int at = 0; at < 96; at++) {
                int dx = at % 12 - 5;
                int dy = at / 12 - 3;
                if (dx < 0 || dx >= wide || dy < 0 || dy >= high) {
                    x.cut(0, 3, false, at % 12, at / 12);
                    quirks++;
                }
            }
            Check.same(Workshop.named(kind, turned) + " between cut cells", quirks, x.cut(0, kind, turned, 5, 3));
        });
    }

    /** A skin with these two cells of a part thin (or one, if they are the same). */
    private static GloveCutters thinAt(int wide, int one, int other) {
        GloveCutters x = Workshop.laid(1, 0);
        x.mark(0, 4 + one % wide, 4 + one / wide, 1, 1, 1);
        x.mark(0, 4 + other % wide, 4 + other / wide, 1, 1, 1);
        return x;
    }

    private static void cutsOrRefuses(GloveCutters x, String call, int kind, boolean turned, boolean cuts) {
        if (cuts) {
            Check.same(call, 0, x.cut(0, kind, turned, 4, 4));
        } else {
            Check.refused(x, call, Check.STATE, () -> x.cut(0, kind, turned, 4, 4));
        }
    }

    static void promise6OneThinCellInIt() {
        forEachKind((kind, turned, wide, high) -> {
            for (int at = 0; at < wide * high; at++) {
                cutsOrRefuses(thinAt(wide, at, at), Workshop.named(kind, turned) + ", cell " + at + " thin",
                        kind, turned, kind != 0);
            }
        });
    }

    static void promise6TwoThinCellsInIt() {
        forEachKind((kind, turned, wide, high) -> {
            for (int at = 0; at < wide * high; at++) {
                for (int other = 0; other < at; other++) {
                    cutsOrRefuses(thinAt(wide, at, other), Workshop.named(kind, turned) + ", cells " + at + ", " + other + " thin",
                            kind, turned, false);
                }
            }
        });
    }

    static void promise6AllCellsThin() {
        forEachKind((kind, turned, wide, high) -> {
            GloveCutters x = Workshop.laid(1, 0);
            x.mark(0, 0, 0, 12, 8, 1);
            cutsOrRefuses(x, Workshop.named(kind, turned) + " of thin cells", kind, turned, kind == 3);
        });
    }

    static void promise6ThinCellsRoundIt() {
        forEachKind((kind, turned, wide, high) -> {
            GloveCutters x = Workshop.laid(1, 0);
            x.mark(0, 0, 0, 12, 8, 1);
            x.mark(0, 4, 4, wide, high, 0);
            cutsOrRefuses(x, Workshop.named(kind, turned) + " between thin cells", kind, turned, true);
        });
    }

    static void promise6PiecesAreNumberedFrom0() {
        GloveCutters x = Workshop.laid(2, 0);
        Check.same("the first", 0, x.cut(1, 0, false, 0, 0));
        Check.refused(x, "none there", Check.STATE, () -> x.cut(1, 0, false, 0, 0));
        Check.same("the second, of another skin", 1, x.cut(0, 1, true, 0, 0));
        Check.same("the third, of the first skin", 2, x.cut(1, 3, false, 11, 7));
    }

    static void promise6The150thIsCut() {
        GloveCutters x = Workshop.laid(2, 0);
        for (int piece = 0; piece < 150; piece++) {
            int at = piece % 96;
            Check.same("quirk " + piece, piece, x.cut(piece / 96, 3, false, at % 12, at / 12));
        }
    }

    static void promise6WhenThe150WereCut() {
        forEachKind((kind, turned, wide, high) -> {
            GloveCutters x = Workshop.with150Pieces();
            Check.refused(x, "a 151st piece, " + Workshop.named(kind, turned), Check.STATE, () -> x.cut(1, kind, turned, 6, 4));
            Check.refused(x, "a 151st piece where none can be", Check.STATE, () -> x.cut(0, kind, turned, 0, 0));
        });
    }

    static void promise6SewnAndLostPiecesCountAmongThe150() {
        GloveCutters x = Workshop.with20Pairs();
        x.lay(0);
        for (int at = 0; at < 22; at++) {
            Check.same("a quirk more", 128 + at, x.cut(6, 3, false, at % 12, at / 12));
        }
        Check.refused(x, "a 151st piece", Check.STATE, () -> x.cut(6, 3, false, 11, 7));
        x.rip(19);
        Check.refused(x, "a 151st piece after rip", Check.STATE, () -> x.cut(6, 3, false, 11, 7));
    }

    static void promise6NoSuchSkinOrCellIsNamedFirst() {
        GloveCutters x = Workshop.with150Pieces();
        int[][] places = {{2, 0, 0}, {-1, 0, 0}, {0, 12, 0}, {0, -1, 0}, {1, 0, 8}, {1, 0, -1}};
        for (int[] p : places) {
            for (int kind = -1; kind <= 4; kind++) {
                int one = kind;
                Check.refused(x, "cut: no such cell, at 150, kind " + kind, Check.INDEX, () -> x.cut(p[0], one, false, p[1], p[2]));
            }
        }
    }

    static void promise6AWrongKindIsNamedBeforeItsPlaceAndThe150() {
        GloveCutters x = Workshop.laid(1, 0);
        x.cut(0, 3, false, 0, 0);
        Check.refusedOutside(x, "at a cut cell, kind", 0, 3, Check.ARGUMENT, kind -> x.cut(0, kind, false, 0, 0));
        Check.refusedOutside(x, "at the edge, kind", 0, 3, Check.ARGUMENT, kind -> x.cut(0, kind, true, 11, 7));
        GloveCutters full = Workshop.with150Pieces();
        Check.refusedOutside(full, "at 150, kind", 0, 3, Check.ARGUMENT, kind -> full.cut(1, kind, false, 11, 7));
    }

    // ---- promise 7: place

    static void promise7NoSuchSkin() {
        GloveCutters x = Workshop.laid(2, 0);
        Check.refusedOutside(x, "place: skin", 0, 1, Check.INDEX, skin -> x.place(skin, 0, false));
        GloveCutters full = Workshop.laid(10, 0);
        Check.refusedOutside(full, "of 10, place: skin", 0, 9, Check.INDEX, skin -> full.place(skin, 0, false));
        Check.same("place on the last of 10", 0, full.place(9, 0, false));
    }

    static void promise7KindNot0To3() {
        GloveCutters x = Workshop.laid(1, 0);
        for (boolean turned : Workshop.BOTH_WAYS) {
            Check.refusedOutside(x, "place: kind", 0, 3, Check.ARGUMENT, kind -> x.place(0, kind, turned));
            for (int kind = 0; kind <= 3; kind++) {
                Check.same(Workshop.named(kind, turned) + " on a whole skin", 0, x.place(0, kind, turned));
            }
        }
    }

    static void promise7NoSuchSkinIsNamedFirst() {
        GloveCutters x = Workshop.laid(1, 0);
        Check.refusedOutside(x, "place: no kind 4, and skin", 0, 0, Check.INDEX, skin -> x.place(skin, 4, false));
        Check.refusedOutside(x, "place: no kind -1, and skin", 0, 0, Check.INDEX, skin -> x.place(skin, -1, true));
    }

    static void promise7NoneOnHolesOrCutCells() {
        GloveCutters x = Workshop.laid(2, 0);
        x.mark(0, 0, 0, 12, 8, 2);
        Workshop.cutQuirks(x, 1, 96);
        forEachKind((kind, turned, wide, high) -> {
            Check.same(Workshop.named(kind, turned) + " on holes", -1, x.place(0, kind, turned));
            Check.same(Workshop.named(kind, turned) + " on cut cells", -1, x.place(1, kind, turned));
        });
    }

    static void promise7OnThinCellsAQuirkAlone() {
        GloveCutters x = Workshop.laid(1, 0);
        x.mark(0, 0, 0, 12, 8, 1);
        forEachKind((kind, turned, wide, high) ->
                Check.same(Workshop.named(kind, turned) + " on thin cells", kind == 3 ? 0 : -1, x.place(0, kind, turned)));
    }

    static void promise7AsManyThinCellsAsItsKindMayHave() {
        forEachKind((kind, turned, wide, high) -> {
            for (int thin = 1; thin <= Math.min(3, wide); thin++) {
                GloveCutters x = Workshop.laid(1, 0);
                Workshop.holesBut(x, 0, 12 - wide, 8 - high, wide, high);
                x.mark(0, 12 - thin, 7, thin, 1, 1);
                int due = thin <= MOST_THIN[kind] ? 12 * (8 - high) + 12 - wide : -1;
                Check.same(Workshop.named(kind, turned) + " with " + thin + " thin cells", due, x.place(0, kind, turned));
            }
        });
    }

    static void promise7NoneWhereOneCellIsTooFew() {
        forEachKind((kind, turned, wide, high) -> {
            for (int at = 0; at < wide * high; at++) {
                GloveCutters x = Workshop.laid(1, 0);
                Workshop.holesBut(x, 0, 5, 3, wide, high);
                x.mark(0, 5 + at % wide, 3 + at / wide, 1, 1, 2);
                Check.same(Workshop.named(kind, turned) + " without cell " + at, -1, x.place(0, kind, turned));
            }
        });
    }

    static void promise7TheOnlyPlaceWhereverItIs() {
        forEachKind((kind, turned, wide, high) -> {
            for (int y = 0; y <= 8 - high; y++) {
                GloveCutters x = Workshop.laid(1, 0);
                for (int cx = 0; cx <= 12 - wide; cx++) {
                    Workshop.holesBut(x, 0, cx, y, wide, high);
                    Check.same(Workshop.named(kind, turned) + " at " + cx + " " + y, 12 * y + cx, x.place(0, kind, turned));
                }
            }
        });
    }

    static void promise7TheLeastNumberOfSeveral() {
        GloveCutters x = Workshop.laid(1, 0);
        x.mark(0, 0, 0, 12, 8, 2);
        x.mark(0, 11, 2, 1, 1, 0);
        x.mark(0, 0, 3, 1, 1, 0);
        Check.same("the end of a row before the next row", 12 * 2 + 11, x.place(0, 3, false));
        x.mark(0, 9, 2, 1, 1, 0);
        Check.same("the first of a row", 12 * 2 + 9, x.place(0, 3, false));
        x.mark(0, 10, 1, 1, 1, 0);
        Check.same("a row above it", 12 + 10, x.place(0, 3, false));
        x.cut(0, 3, false, 10, 1);
        Check.same("the next when the first is cut", 12 * 2 + 9, x.place(0, 3, false));
    }

    static void promise7NoPlaceGoesRoundTheEdge() {
        forEachKind((kind, turned, wide, high) -> {
            for (int before = 1; before < wide; before++) {
                GloveCutters x = Workshop.laid(1, 0);
                x.mark(0, 0, 0, 12, 8, 2);
                x.mark(0, 12 - before, 0, before, 7, 0);
                x.mark(0, 0, 1, wide - before, 7, 0);
                Check.same(Workshop.named(kind, turned) + " round the edge, " + before, -1, x.place(0, kind, turned));
            }
        });
    }

    static void promise7OfThisSkinAlone() {
        GloveCutters x = Workshop.laid(3, 0);
        x.mark(0, 0, 0, 12, 8, 2);
        x.mark(2, 0, 0, 12, 8, 2);
        Check.same("before it", -1, x.place(0, 1, false));
        Check.same("it", 0, x.place(1, 1, false));
        Check.same("behind it", -1, x.place(2, 1, false));
    }

    static void promise7WhenThe150WereCut() {
        GloveCutters x = Workshop.with150Pieces();
        Check.same("place() tells where a 151st could be", 54, x.place(1, 3, false));
        Check.same("place() on a skin all cut", -1, x.place(0, 3, false));
    }

    // ---- promise 8: piece

    static void promise8NoSuchPiece() {
        GloveCutters x = Workshop.laid(1, 0);
        Check.refusedOutside(x, "piece of none", 0, -1, Check.INDEX, piece -> x.piece(piece, 0));
        x.cut(0, 0, false, 0, 0);
        x.cut(0, 3, false, 0, 4);
        for (int what = 0; what <= 3; what++) {
            int told = what;
            Check.refusedOutside(x, "piece(.., " + what + ")", 0, 1, Check.INDEX, piece -> x.piece(piece, told));
        }
        Check.same("kind of the first", 0, x.piece(0, 1));
        Check.same("kind of the last", 3, x.piece(1, 1));
        GloveCutters full = Workshop.with150Pieces();
        Check.refusedOutside(full, "of 150, piece", 0, 149, Check.INDEX, piece -> full.piece(piece, 0));
        Check.same("the skin of the last of 150", 1, full.piece(149, 0));
    }

    static void promise8WhatNot0To3() {
        GloveCutters x = Workshop.laid(1, 0);
        x.mark(0, 0, 0, 1, 1, 1);
        x.cut(0, 3, false, 0, 0);
        Check.refusedOutside(x, "piece: what", 0, 3, Check.INDEX, what -> x.piece(0, what));
        Check.same("what 0", 0, x.piece(0, 0));
        Check.same("what 3", 1, x.piece(0, 3));
    }

    static void promise8ItsSkinAndKind() {
        GloveCutters x = Workshop.laid(10, 0);
        for (int skin = 0; skin <= 9; skin++) {
            for (int kind = 0; kind <= 3; kind++) {
                x.cut(skin, kind, false, 3 * kind + (kind == 0 ? 0 : 1), 0);
            }
        }
        for (int piece = 0; piece < 40; piece++) {
            Check.same("skin of piece " + piece, piece / 4, x.piece(piece, 0));
            Check.same("kind of piece " + piece, piece % 4, x.piece(piece, 1));
        }
    }

    static void promise8ItIsFreeSewnOrLost() {
        GloveCutters x = Workshop.laid(1, 0);
        Workshop.cutPair(x, 0);
        for (int piece = 0; piece < 14; piece++) {
            Check.same("free: piece " + piece, -1, x.piece(piece, 2));
        }
        x.sew(0);
        for (int piece = 0; piece < 14; piece++) {
            Check.same("sewn into pair 0: piece " + piece, 0, x.piece(piece, 2));
        }
        x.rip(0);
        for (int piece = 0; piece < 14; piece++) {
            Check.same("ripped: piece " + piece, piece >= 4 && piece < 10 ? -2 : -1, x.piece(piece, 2));
        }
    }

    static void promise8ThePairAmong20() {
        GloveCutters x = Workshop.with20Pairs();
        for (int piece = 0; piece < 128; piece++) {
            Check.same("of 20 pairs: piece " + piece, piece < 8 || piece >= 122 ? 19 : -2, x.piece(piece, 2));
        }
    }

    static void promise8ThinCellsInIt() {
        forEachKind((kind, turned, wide, high) -> {
            GloveCutters x = Workshop.laid(1, 0);
            x.cut(0, kind, turned, 0, 0);
            Check.same(Workshop.named(kind, turned) + " without a thin cell", 0, x.piece(0, 3));
            for (int at = 0; kind > 0 && at < wide * high; at++) {
                GloveCutters y = thinAt(wide, at, at);
                y.cut(0, kind, turned, 4, 4);
                Check.same(Workshop.named(kind, turned) + " with thin cell " + at, 1, y.piece(0, 3));
            }
        });
    }

    static void promise8ThinCellsStayWhenItIsSewnOrLost() {
        GloveCutters x = Workshop.laid(1, 0);
        x.mark(0, 8, 0, 1, 1, 1);
        x.mark(0, 8, 2, 1, 1, 1);
        Workshop.cutPair(x, 0);
        Check.same("the thumb", 1, x.piece(2, 3));
        Check.same("the fourchette", 1, x.piece(4, 3));
        x.sew(0);
        Check.same("the thumb, sewn", 1, x.piece(2, 3));
        Check.same("the fourchette, sewn", 1, x.piece(4, 3));
        x.rip(0);
        Check.same("the thumb, ripped", 1, x.piece(2, 3));
        Check.same("the fourchette, lost", 1, x.piece(4, 3));
    }
}
