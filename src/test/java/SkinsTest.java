/** Promises 1 to 5: a new object, lay, mark, cell, skin. */
public final class SkinsTest {
    private static final Class<IndexOutOfBoundsException> INDEX = IndexOutOfBoundsException.class;
    private static final Class<IllegalArgumentException> ARGUMENT = IllegalArgumentException.class;
    private static final Class<IllegalStateException> STATE = IllegalStateException.class;
    private static final int[] FAR = {Integer.MIN_VALUE, -1, Integer.MAX_VALUE};

    public static void main(String[] args) {
        promise1NewObject();
        promise2Lay();
        promise2LayRefuses();
        promise3Mark();
        promise3MarkRefuses();
        promise3MarkOrder();
        promise4Cell();
        promise4CellRefuses();
        promise5Skin();
        promise5SkinRefuses();
        Check.end();
    }

    private static void promise1NewObject() {
        GloveCutters x = new GloveCutters();
        for (int what = 0; what <= 6; what++) {
            Check.same("new: count(" + what + ")", 0, x.count(what));
        }
        Check.sameDouble("new: share()", 0.0, x.share());
        Check.refused("new: cell(0, 0, 0)", INDEX, () -> x.cell(0, 0, 0));
        Check.refused("new: piece(0, 0)", INDEX, () -> x.piece(0, 0));
        Check.refused("new: pair(0, 0)", INDEX, () -> x.pair(0, 0));
        GloveCutters other = new GloveCutters();
        other.lay(3);
        Check.same("two objects share no state", 0, x.count(0));
    }

    private static void promise2Lay() {
        GloveCutters x = new GloveCutters();
        int[] colours = {0, 5, 3, 3, 1, 2, 4, 0, 5, 2};
        for (int skin = 0; skin < 10; skin++) {
            Check.same("lay " + skin, skin, x.lay(colours[skin]));
            Check.same("colour of " + skin, colours[skin], x.skin(skin, 0));
            Check.same("count(0) after lay " + skin, skin + 1, x.count(0));
            Check.same("a new skin is whole", 96, x.skin(skin, 1));
        }
    }

    private static void promise2LayRefuses() {
        GloveCutters x = new GloveCutters();
        Check.refusedUnchanged(x, "lay(-1)", ARGUMENT, () -> x.lay(-1));
        Check.refusedUnchanged(x, "lay(6)", ARGUMENT, () -> x.lay(6));
        Check.refusedUnchanged(x, "lay(max)", ARGUMENT, () -> x.lay(Integer.MAX_VALUE));
        Check.refusedUnchanged(x, "lay(min)", ARGUMENT, () -> x.lay(Integer.MIN_VALUE));
        for (int skin = 0; skin < 10; skin++) {
            x.lay(1);
        }
        Check.refusedUnchanged(x, "an 11th skin", STATE, () -> x.lay(1));
        Check.refusedUnchanged(x, "an 11th skin of a wrong colour", ARGUMENT, () -> x.lay(6));
    }

    private static void promise3Mark() {
        GloveCutters x = new GloveCutters();
        x.lay(0);
        x.lay(0);
        Check.same("mark the same as before", 0, x.mark(0, 0, 0, 12, 8, 0));
        Check.same("mark thin", 6, x.mark(0, 1, 2, 3, 2, 1));
        Check.same("mark thin again", 0, x.mark(0, 1, 2, 3, 2, 1));
        Check.same("mark holes over a part of it", 4, x.mark(0, 3, 3, 2, 2, 2));
        Check.same("mark thin over thin, holes and whole", 3, x.mark(0, 2, 2, 2, 3, 1));
        Check.same("a hole heals", 1, x.mark(0, 4, 3, 1, 1, 0));
        Check.same("the last cell", 1, x.mark(0, 11, 7, 1, 1, 2));
        Check.same("last cell is a hole", 2, x.cell(0, 11, 7));
        Check.same("all of it", 96, x.mark(1, 0, 0, 12, 8, 2));
        Check.same("as wide as it can be", 5, x.mark(1, 7, 7, 5, 1, 0));
        Check.same("as high as it can be", 8, x.mark(1, 0, 0, 1, 8, 1));
        Check.same("the other skin keeps its whole ones", 96 - x.skin(0, 2) - x.skin(0, 3), x.skin(0, 1));
        GloveCutters y = new GloveCutters();
        y.lay(0);
        y.mark(0, 2, 1, 3, 2, 1);
        for (int at = 0; at < 96; at++) {
            int cx = at % 12;
            int cy = at / 12;
            boolean inside = cx >= 2 && cx < 5 && cy >= 1 && cy < 3;
            Check.same("marked cell " + cx + " " + cy, inside ? 1 : 0, y.cell(0, cx, cy));
        }
    }

    private static void promise3MarkRefuses() {
        GloveCutters x = new GloveCutters();
        x.lay(0);
        for (int far : FAR) {
            Check.refusedUnchanged(x, "mark: skin " + far, INDEX, () -> x.mark(far, 0, 0, 1, 1, 1));
            Check.refusedUnchanged(x, "mark: x " + far, INDEX, () -> x.mark(0, far, 0, 1, 1, 1));
            Check.refusedUnchanged(x, "mark: y " + far, INDEX, () -> x.mark(0, 0, far, 1, 1, 1));
            Check.refusedUnchanged(x, "mark: wide " + far, ARGUMENT, () -> x.mark(0, 0, 0, far, 1, 1));
            Check.refusedUnchanged(x, "mark: high " + far, ARGUMENT, () -> x.mark(0, 0, 0, 1, far, 1));
            Check.refusedUnchanged(x, "mark: how " + far, ARGUMENT, () -> x.mark(0, 0, 0, 1, 1, far));
        }
        Check.refusedUnchanged(x, "mark: skin 1 of 1", INDEX, () -> x.mark(1, 0, 0, 1, 1, 1));
        Check.refusedUnchanged(x, "mark: x 12", INDEX, () -> x.mark(0, 12, 0, 1, 1, 1));
        Check.refusedUnchanged(x, "mark: y 8", INDEX, () -> x.mark(0, 0, 8, 1, 1, 1));
        Check.refusedUnchanged(x, "mark: wide 0", ARGUMENT, () -> x.mark(0, 0, 0, 0, 1, 1));
        Check.refusedUnchanged(x, "mark: high 0", ARGUMENT, () -> x.mark(0, 0, 0, 1, 0, 1));
        Check.refusedUnchanged(x, "mark: wide 13 at 0", ARGUMENT, () -> x.mark(0, 0, 0, 13, 1, 1));
        Check.refusedUnchanged(x, "mark: wide 2 at 11", ARGUMENT, () -> x.mark(0, 11, 0, 2, 1, 1));
        Check.refusedUnchanged(x, "mark: high 9 at 0", ARGUMENT, () -> x.mark(0, 0, 0, 1, 9, 1));
        Check.refusedUnchanged(x, "mark: high 2 at 7", ARGUMENT, () -> x.mark(0, 0, 7, 1, 2, 1));
        Check.refusedUnchanged(x, "mark: how 3", ARGUMENT, () -> x.mark(0, 0, 0, 1, 1, 3));
        x.cut(0, 3, false, 5, 5);
        Check.refusedUnchanged(x, "mark: one cell of it cut", STATE, () -> x.mark(0, 0, 0, 12, 8, 1));
        Check.refusedUnchanged(x, "mark: the cut cell, as whole", STATE, () -> x.mark(0, 5, 5, 1, 1, 0));
        Check.refusedUnchanged(x, "mark: the cut cell last", STATE, () -> x.mark(0, 4, 4, 2, 2, 2));
        Check.same("mark beside a cut cell", 5, x.mark(0, 0, 5, 5, 1, 2));
        Check.same("mark under a cut cell", 12, x.mark(0, 0, 6, 12, 1, 1));
    }

    private static void promise3MarkOrder() {
        GloveCutters x = new GloveCutters();
        x.lay(0);
        x.cut(0, 3, false, 0, 0);
        Check.refused("mark: no skin before wrong size", INDEX, () -> x.mark(1, 0, 0, 0, 0, 3));
        Check.refused("mark: no x before wrong size", INDEX, () -> x.mark(0, 12, 0, 0, 1, 1));
        Check.refused("mark: no y before wrong how", INDEX, () -> x.mark(0, 0, -1, 1, 1, 3));
        Check.refused("mark: wrong how before a cut cell", ARGUMENT, () -> x.mark(0, 0, 0, 1, 1, 3));
        Check.refused("mark: wrong wide before a cut cell", ARGUMENT, () -> x.mark(0, 0, 0, 13, 1, 1));
        Check.refused("mark: wrong high before a cut cell", ARGUMENT, () -> x.mark(0, 0, 0, 1, 9, 1));
    }

    private static void promise4Cell() {
        GloveCutters x = new GloveCutters();
        x.lay(0);
        x.mark(0, 1, 0, 1, 1, 1);
        x.mark(0, 2, 0, 1, 1, 2);
        x.mark(0, 4, 0, 1, 1, 1);
        x.cut(0, 3, false, 3, 0);
        x.cut(0, 3, false, 4, 0);
        Check.same("whole", 0, x.cell(0, 0, 0));
        Check.same("thin", 1, x.cell(0, 1, 0));
        Check.same("hole", 2, x.cell(0, 2, 0));
        Check.same("cut", 3, x.cell(0, 3, 0));
        Check.same("thin and cut", 3, x.cell(0, 4, 0));
        Check.same("the last", 0, x.cell(0, 11, 7));
    }

    private static void promise4CellRefuses() {
        GloveCutters x = new GloveCutters();
        x.lay(0);
        for (int far : FAR) {
            Check.refusedUnchanged(x, "cell: skin " + far, INDEX, () -> x.cell(far, 0, 0));
            Check.refusedUnchanged(x, "cell: x " + far, INDEX, () -> x.cell(0, far, 0));
            Check.refusedUnchanged(x, "cell: y " + far, INDEX, () -> x.cell(0, 0, far));
        }
        Check.refusedUnchanged(x, "cell: skin 1 of 1", INDEX, () -> x.cell(1, 0, 0));
        Check.refusedUnchanged(x, "cell: x 12", INDEX, () -> x.cell(0, 12, 0));
        Check.refusedUnchanged(x, "cell: y 8", INDEX, () -> x.cell(0, 0, 8));
    }

    private static void promise5Skin() {
        GloveCutters x = new GloveCutters();
        x.lay(4);
        x.lay(2);
        x.mark(1, 0, 0, 2, 1, 1);
        x.mark(1, 4, 4, 3, 1, 2);
        x.cut(1, 1, false, 1, 0);
        x.cut(1, 3, false, 11, 7);
        long[] due = {2, 96 - 1 - 3 - 5, 1, 3, 5, 2};
        long[] other = {4, 96, 0, 0, 0, 0};
        for (int what = 0; what <= 5; what++) {
            Check.same("skin(1, " + what + ")", due[what], x.skin(1, what));
            Check.same("skin(0, " + what + ")", other[what], x.skin(0, what));
        }
    }

    private static void promise5SkinRefuses() {
        GloveCutters x = new GloveCutters();
        Check.refused("skin(0, 0) of none", INDEX, () -> x.skin(0, 0));
        x.lay(0);
        for (int far : FAR) {
            Check.refusedUnchanged(x, "skin: skin " + far, INDEX, () -> x.skin(far, 0));
            Check.refusedUnchanged(x, "skin: what " + far, INDEX, () -> x.skin(0, far));
        }
        Check.refusedUnchanged(x, "skin: skin 1 of 1", INDEX, () -> x.skin(1, 0));
        Check.refusedUnchanged(x, "skin: what 6", INDEX, () -> x.skin(0, 6));
    }
}
