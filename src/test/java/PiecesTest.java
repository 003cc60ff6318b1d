/** Promises 6 to 8: cut, place, piece. */
public final class PiecesTest {
    private static final Class<IndexOutOfBoundsException> INDEX = IndexOutOfBoundsException.class;
    private static final Class<IllegalArgumentException> ARGUMENT = IllegalArgumentException.class;
    private static final Class<IllegalStateException> STATE = IllegalStateException.class;
    private static final int[] FAR = {Integer.MIN_VALUE, -1, Integer.MAX_VALUE};
    private static final int[] WIDE = {4, 2, 1, 1};
    private static final int[] HIGH = {3, 2, 3, 1};

    public static void main(String[] args) {
        promise6CutsTheCellsOfItsKind();
        promise6CutAtTheSkinsEdges();
        promise6CutAndThinCells();
        promise6CutAndHolesAndCuts();
        promise6CutRefuses();
        promise6CutOrder();
        promise6At150();
        promise7Place();
        promise7PlaceRefuses();
        promise8Piece();
        promise8PieceRefuses();
        Check.end();
    }

    private static int wide(int kind, boolean turned) {
        return turned ? HIGH[kind] : WIDE[kind];
    }

    private static int high(int kind, boolean turned) {
        return turned ? WIDE[kind] : HIGH[kind];
    }

    private static void promise6CutsTheCellsOfItsKind() {
        for (int kind = 0; kind <= 3; kind++) {
            for (boolean turned : new boolean[] {false, true}) {
                GloveCutters x = new GloveCutters();
                x.lay(0);
                Check.same("cut kind " + kind, 0, x.cut(0, kind, turned, 3, 2));
                for (int at = 0; at < 96; at++) {
                    int cx = at % 12;
                    int cy = at / 12;
                    boolean inside = cx >= 3 && cx < 3 + wide(kind, turned) && cy >= 2 && cy < 2 + high(kind, turned);
                    Check.same("kind " + kind + " " + turned + " cell " + cx + " " + cy, inside ? 3 : 0, x.cell(0, cx, cy));
                }
                Check.same("pieces of the skin", 1, x.skin(0, 5));
                Check.same("a second piece's number", 1, x.cut(0, kind, turned, 8, 4));
            }
        }
    }

    private static void promise6CutAtTheSkinsEdges() {
        for (int kind = 0; kind <= 3; kind++) {
            for (boolean turned : new boolean[] {false, true}) {
                GloveCutters x = new GloveCutters();
                x.lay(0);
                int k = kind;
                int lastX = 12 - wide(kind, turned);
                int lastY = 8 - high(kind, turned);
                if (lastX < 11) {
                    Check.refusedUnchanged(x, "over the right edge", STATE, () -> x.cut(0, k, turned, lastX + 1, lastY));
                }
                if (lastY < 7) {
                    Check.refusedUnchanged(x, "over the lower edge", STATE, () -> x.cut(0, k, turned, lastX, lastY + 1));
                }
                Check.same("in the lower right corner", 0, x.cut(0, kind, turned, lastX, lastY));
                Check.same("in the upper left corner", 1, x.cut(0, kind, turned, 0, 0));
            }
        }
    }

    private static void promise6CutAndThinCells() {
        int[] mostThin = {0, 1, 1, 1};
        for (int kind = 0; kind <= 3; kind++) {
            int cells = WIDE[kind] * HIGH[kind];
            for (int thin = 0; thin <= Math.min(2, cells); thin++) {
                GloveCutters x = new GloveCutters();
                x.lay(0);
                int k = kind;
                if (thin > 0) {
                    // the thin ones are its last cells
                    int y = HIGH[kind] - 1;
                    boolean across = WIDE[kind] >= thin;
                    x.mark(0, across ? WIDE[kind] - thin : 0, across ? y : y - thin + 1, across ? thin : 1, across ? 1 : thin, 1);
                }
                if (thin <= mostThin[kind]) {
                    Check.same("kind " + kind + " with " + thin + " thin", 0, x.cut(0, kind, false, 0, 0));
                    Check.same("its thin cells", thin, x.piece(0, 3));
                } else {
                    Check.refusedUnchanged(x, "kind " + kind + " with " + thin + " thin", STATE, () -> x.cut(0, k, false, 0, 0));
                }
            }
        }
    }

    private static void promise6CutAndHolesAndCuts() {
        for (int kind = 0; kind <= 3; kind++) {
            int k = kind;
            for (int at = 0; at < WIDE[kind] * HIGH[kind]; at++) {
                int cx = 4 + at % WIDE[kind];
                int cy = 4 + at / WIDE[kind];
                GloveCutters x = new GloveCutters();
                x.lay(0);
                x.mark(0, cx, cy, 1, 1, 2);
                Check.refusedUnchanged(x, "kind " + kind + " with a hole", STATE, () -> x.cut(0, k, false, 4, 4));
                x.mark(0, cx, cy, 1, 1, 0);
                x.cut(0, 3, false, cx, cy);
                Check.refusedUnchanged(x, "kind " + kind + " with a cut cell", STATE, () -> x.cut(0, k, false, 4, 4));
            }
        }
    }

    private static void promise6CutRefuses() {
        GloveCutters x = new GloveCutters();
        x.lay(0);
        for (int far : FAR) {
            Check.refusedUnchanged(x, "cut: skin " + far, INDEX, () -> x.cut(far, 0, false, 0, 0));
            Check.refusedUnchanged(x, "cut: x " + far, INDEX, () -> x.cut(0, 0, false, far, 0));
            Check.refusedUnchanged(x, "cut: y " + far, INDEX, () -> x.cut(0, 0, true, 0, far));
            Check.refusedUnchanged(x, "cut: kind " + far, ARGUMENT, () -> x.cut(0, far, true, 0, 0));
        }
        Check.refusedUnchanged(x, "cut: skin 1 of 1", INDEX, () -> x.cut(1, 0, false, 0, 0));
        Check.refusedUnchanged(x, "cut: x 12", INDEX, () -> x.cut(0, 3, false, 12, 0));
        Check.refusedUnchanged(x, "cut: y 8", INDEX, () -> x.cut(0, 3, false, 0, 8));
        Check.refusedUnchanged(x, "cut: kind 4", ARGUMENT, () -> x.cut(0, 4, false, 0, 0));
    }

    private static void promise6CutOrder() {
        GloveCutters x = new GloveCutters();
        x.lay(0);
        x.cut(0, 3, false, 0, 0);
        Check.refused("cut: no skin before wrong kind", INDEX, () -> x.cut(1, 4, false, 0, 0));
        Check.refused("cut: no x before wrong kind", INDEX, () -> x.cut(0, -1, false, 12, 0));
        Check.refused("cut: no y before wrong kind", INDEX, () -> x.cut(0, 4, false, 0, -1));
        Check.refused("cut: wrong kind before a cut cell", ARGUMENT, () -> x.cut(0, 4, false, 0, 0));
        Check.refused("cut: wrong kind at the edge", ARGUMENT, () -> x.cut(0, -1, true, 11, 7));
    }

    private static void promise6At150() {
        GloveCutters x = new GloveCutters();
        x.lay(0);
        x.lay(0);
        for (int piece = 0; piece < 150; piece++) {
            int at = piece % 96;
            Check.same("quirk " + piece, piece, x.cut(piece / 96, 3, false, at % 12, at / 12));
        }
        Check.refusedUnchanged(x, "a 151st piece", STATE, () -> x.cut(1, 3, false, 11, 7));
        Check.refusedUnchanged(x, "a 151st piece where none can be", STATE, () -> x.cut(0, 3, false, 0, 0));
        Check.refusedUnchanged(x, "a 151st piece of no kind", ARGUMENT, () -> x.cut(1, 4, false, 11, 7));
        Check.refusedUnchanged(x, "a 151st piece of no skin", INDEX, () -> x.cut(2, 4, false, 11, 7));
        Check.same("place() goes on", 54, x.place(1, 3, false));
        Check.same("gives() goes on", 42, x.gives(1, 3, false));
        Check.same("best() goes on", 1, x.best(3, false));
        Check.same("the last piece", 3, x.piece(149, 1));
        Check.same("count(1)", 150, x.count(1));
    }

    private static void promise7Place() {
        GloveCutters x = new GloveCutters();
        x.lay(0);
        Check.same("on a whole skin", 0, x.place(0, 0, false));
        x.mark(0, 3, 0, 1, 1, 1);
        Check.same("a trank behind a thin cell", 4, x.place(0, 0, false));
        Check.same("a turned trank before it", 0, x.place(0, 0, true));
        Check.same("a thumb with one thin cell", 0, x.place(0, 1, false));
        x.mark(0, 1, 0, 1, 1, 2);
        Check.same("a thumb behind a hole, with the thin cell", 2, x.place(0, 1, false));
        Check.same("a turned trank behind both", 4, x.place(0, 0, true));
        Check.same("a fourchette in the first column", 0, x.place(0, 2, false));
        Check.same("a turned fourchette", 2, x.place(0, 2, true));
        x.cut(0, 3, false, 2, 0);
        Check.same("a turned fourchette behind a cut", 3, x.place(0, 2, true));
        x.mark(0, 3, 0, 9, 1, 2);
        Check.same("a trank in the next row", 12, x.place(0, 0, false));
        x.mark(0, 0, 1, 12, 6, 2);
        x.mark(0, 0, 7, 12, 1, 2);
        x.mark(0, 9, 7, 3, 1, 0);
        Check.same("in the last row, at its end", 12 * 7 + 9, x.place(0, 2, true));
        Check.same("a quirk before it", 0, x.place(0, 3, true));
        Check.same("no trank", -1, x.place(0, 0, false));
        Check.same("no thumb", -1, x.place(0, 1, true));
        x.lay(0);
        x.mark(1, 0, 0, 12, 8, 2);
        x.mark(1, 10, 6, 2, 2, 0);
        Check.same("the last place of a thumb", 12 * 6 + 10, x.place(1, 1, false));
        Check.same("place changes nothing", 4, x.skin(1, 1));
    }

    private static void promise7PlaceRefuses() {
        GloveCutters x = new GloveCutters();
        x.lay(0);
        for (int far : FAR) {
            Check.refusedUnchanged(x, "place: skin " + far, INDEX, () -> x.place(far, 0, false));
            Check.refusedUnchanged(x, "place: kind " + far, ARGUMENT, () -> x.place(0, far, true));
        }
        Check.refusedUnchanged(x, "place: skin 1 of 1", INDEX, () -> x.place(1, 0, false));
        Check.refusedUnchanged(x, "place: kind 4", ARGUMENT, () -> x.place(0, 4, false));
        Check.refusedUnchanged(x, "place: no skin before wrong kind", INDEX, () -> x.place(1, 4, false));
    }

    private static void promise8Piece() {
        GloveCutters x = new GloveCutters();
        x.lay(0);
        x.lay(1);
        x.mark(1, 0, 0, 1, 1, 1);
        x.cut(0, 0, false, 0, 0);
        x.cut(1, 1, false, 0, 0);
        x.cut(1, 2, true, 4, 4);
        long[][] due = {{0, 0, -1, 0}, {1, 1, -1, 1}, {1, 2, -1, 0}};
        for (int piece = 0; piece < 3; piece++) {
            for (int what = 0; what <= 3; what++) {
                Check.same("piece(" + piece + ", " + what + ")", due[piece][what], x.piece(piece, what));
            }
        }
    }

    private static void promise8PieceRefuses() {
        GloveCutters x = new GloveCutters();
        x.lay(0);
        Check.refused("piece(0, 0) of none", INDEX, () -> x.piece(0, 0));
        x.cut(0, 0, false, 0, 0);
        for (int far : FAR) {
            Check.refusedUnchanged(x, "piece: piece " + far, INDEX, () -> x.piece(far, 0));
            Check.refusedUnchanged(x, "piece: what " + far, INDEX, () -> x.piece(0, far));
        }
        Check.refusedUnchanged(x, "piece: piece 1 of 1", INDEX, () -> x.piece(1, 0));
        Check.refusedUnchanged(x, "piece: what 4", INDEX, () -> x.piece(0, 4));
    }
}
