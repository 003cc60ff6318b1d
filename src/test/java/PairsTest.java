/** Promises 9 to 12: sew, rip, pair, count. */
public final class PairsTest {
    private static final Class<IndexOutOfBoundsException> INDEX = IndexOutOfBoundsException.class;
    private static final Class<IllegalArgumentException> ARGUMENT = IllegalArgumentException.class;
    private static final Class<IllegalStateException> STATE = IllegalStateException.class;
    private static final int[] FAR = {Integer.MIN_VALUE, -1, Integer.MAX_VALUE};

    public static void main(String[] args) {
        promise9SewTakesTheSmallestNumbers();
        promise9SewTakesTranksOfOneSkin();
        promise9SewKeepsToItsColour();
        promise9SewRefuses();
        promise10Rip();
        promise10RipRefuses();
        promise10RippedPiecesAreSewnAgain();
        promise11Pair();
        promise11PairRefuses();
        promise12Count();
        promise12CountRefuses();
        promise9And12At20Pairs();
        Check.end();
    }

    private static void promise9SewTakesTheSmallestNumbers() {
        GloveCutters x = new GloveCutters();
        x.lay(1);
        x.lay(1);
        Workshop.cutMany(x, 1, 3, 5);
        Workshop.cutMany(x, 1, 2, 7);
        Workshop.cutMany(x, 1, 1, 3);
        Workshop.cutMany(x, 0, 0, 3);
        Check.same("sew", 0, x.sew(1));
        int[] left = {4, 11, 14, 17};
        for (int piece = 0; piece < 18; piece++) {
            boolean free = piece == left[0] || piece == left[1] || piece == left[2] || piece == left[3];
            Check.same("piece " + piece + " after sew", free ? -1 : 0, x.piece(piece, 2));
        }
    }

    private static void promise9SewTakesTranksOfOneSkin() {
        GloveCutters x = new GloveCutters();
        for (int skin = 0; skin < 4; skin++) {
            x.lay(2);
        }
        // the smallest trank numbers are on skin 3, single ones on 0, two on 1 and on 3
        Workshop.cutMany(x, 3, 0, 2);
        Workshop.cutMany(x, 0, 0, 1);
        Workshop.cutMany(x, 1, 0, 3);
        Workshop.cutMany(x, 2, 1, 2);
        Workshop.cutMany(x, 2, 2, 6);
        Workshop.cutMany(x, 2, 3, 4);
        Check.same("sew", 0, x.sew(2));
        int[] due = {-1, -1, -1, 0, 0, -1};
        for (int piece = 0; piece < due.length; piece++) {
            Check.same("trank " + piece, due[piece], x.piece(piece, 2));
        }
        Check.same("the skin of its tranks", 1, x.pair(0, 1));
        Workshop.cutMany(x, 2, 1, 2);
        Workshop.cutMany(x, 2, 2, 6);
        Workshop.cutMany(x, 2, 3, 4);
        Check.same("sew again", 1, x.sew(2));
        Check.same("the next skin with two", 3, x.pair(1, 1));
        Workshop.cutMany(x, 0, 1, 2);
        Workshop.cutMany(x, 0, 2, 6);
        Workshop.cutMany(x, 0, 3, 4);
        Check.refusedUnchanged(x, "two tranks of two skins", STATE, () -> x.sew(2));
    }

    private static void promise9SewKeepsToItsColour() {
        GloveCutters x = new GloveCutters();
        x.lay(0);
        x.lay(5);
        Workshop.cutPair(x, 0);
        Workshop.cutPair(x, 1);
        Check.same("sew of colour 5", 0, x.sew(5));
        for (int piece = 0; piece < 28; piece++) {
            Check.same("piece " + piece, piece < 14 ? -1 : 0, x.piece(piece, 2));
        }
        Check.same("sew of colour 0", 1, x.sew(0));
        Check.same("piece 0", 1, x.piece(0, 2));
    }

    private static void promise9SewRefuses() {
        GloveCutters x = new GloveCutters();
        Check.refusedUnchanged(x, "sew(0) without skins", STATE, () -> x.sew(0));
        for (int far : FAR) {
            Check.refusedUnchanged(x, "sew(" + far + ")", ARGUMENT, () -> x.sew(far));
        }
        Check.refusedUnchanged(x, "sew(6)", ARGUMENT, () -> x.sew(6));
        int[] needed = {2, 2, 6, 4};
        for (int lacking = 0; lacking < 4; lacking++) {
            GloveCutters y = new GloveCutters();
            y.lay(3);
            y.lay(3);
            y.lay(4);
            for (int kind = 0; kind < 4; kind++) {
                Workshop.cutMany(y, 0, kind, kind == lacking ? needed[kind] - 1 : needed[kind]);
                Workshop.cutMany(y, 2, kind, 1);
            }
            Check.refusedUnchanged(y, "one of kind " + lacking + " is lacking", STATE, () -> y.sew(3));
            Check.refusedUnchanged(y, "colour 6 before lacking pieces", ARGUMENT, () -> y.sew(6));
            if (lacking == 0) {
                Workshop.cutMany(y, 1, 0, 1);
                Check.refusedUnchanged(y, "a trank of another skin", STATE, () -> y.sew(3));
                Workshop.cutMany(y, 0, 0, 1);
            } else {
                Workshop.cutMany(y, 1, lacking, 1);
            }
            Check.same("with kind " + lacking + " too", 0, y.sew(3));
        }
    }

    private static void promise10Rip() {
        GloveCutters x = new GloveCutters();
        x.lay(0);
        x.lay(0);
        Workshop.cutPair(x, 0);
        Workshop.cutPair(x, 1);
        x.sew(0);
        x.sew(0);
        Check.same("rip", 8, x.rip(0));
        for (int piece = 0; piece < 28; piece++) {
            int due = piece >= 14 ? 1 : piece >= 4 && piece < 10 ? -2 : -1;
            Check.same("piece " + piece + " after rip", due, x.piece(piece, 2));
        }
        Check.same("ripped", 1, x.pair(0, 4));
        Check.same("the other is not", 0, x.pair(1, 4));
    }

    private static void promise10RipRefuses() {
        GloveCutters x = new GloveCutters();
        Check.refusedUnchanged(x, "rip(0) of none", INDEX, () -> x.rip(0));
        x.lay(0);
        Workshop.cutPair(x, 0);
        x.sew(0);
        for (int far : FAR) {
            Check.refusedUnchanged(x, "rip(" + far + ")", INDEX, () -> x.rip(far));
        }
        Check.refusedUnchanged(x, "rip(1) of 1", INDEX, () -> x.rip(1));
        x.rip(0);
        Check.refusedUnchanged(x, "rip twice", STATE, () -> x.rip(0));
        Check.refusedUnchanged(x, "rip(1) after that", INDEX, () -> x.rip(1));
    }

    private static void promise10RippedPiecesAreSewnAgain() {
        GloveCutters x = new GloveCutters();
        x.lay(0);
        Workshop.cutPair(x, 0);
        x.sew(0);
        x.rip(0);
        Check.refusedUnchanged(x, "lost fourchettes are not sewn", STATE, () -> x.sew(0));
        Workshop.cutMany(x, 0, 2, 6);
        Check.same("a new pair gets a new number", 1, x.sew(0));
        Check.same("its trank", 1, x.piece(0, 2));
        Check.same("its new fourchette", 1, x.piece(14, 2));
        Check.same("a lost fourchette", -2, x.piece(4, 2));
        Check.refusedUnchanged(x, "the old pair stays ripped up", STATE, () -> x.rip(0));
        Check.same("rip the new one", 8, x.rip(1));
    }

    private static void promise11Pair() {
        GloveCutters x = new GloveCutters();
        x.lay(1);
        x.lay(3);
        x.lay(3);
        x.lay(3);
        x.mark(1, 0, 0, 1, 1, 1);
        x.mark(2, 0, 0, 1, 8, 1);
        Workshop.cutMany(x, 3, 0, 2);
        Workshop.cutMany(x, 1, 1, 2);
        Workshop.cutMany(x, 3, 2, 6);
        Workshop.cutMany(x, 2, 3, 4);
        Check.same("sew", 0, x.sew(3));
        // the thumb at 0 0 of skin 1 has one thin cell; of the quirks that at 0 0 of skin 2
        long[] due = {3, 3, 3, 2, 0};
        for (int what = 0; what <= 4; what++) {
            Check.same("pair(0, " + what + ")", due[what], x.pair(0, what));
        }
        x.rip(0);
        due[4] = 1;
        for (int what = 0; what <= 4; what++) {
            Check.same("ripped: pair(0, " + what + ")", due[what], x.pair(0, what));
        }
        Workshop.cutMany(x, 3, 2, 6);
        x.sew(3);
        Check.same("ripped: its skins, its pieces sewn again", 3, x.pair(0, 2));
        Check.same("the new pair has the same skin of tranks", 3, x.pair(1, 1));
        GloveCutters y = new GloveCutters();
        y.lay(0);
        Workshop.cutPair(y, 0);
        y.sew(0);
        Check.same("of one skin", 1, y.pair(0, 2));
        Check.same("without thin cells", 0, y.pair(0, 3));
    }

    private static void promise11PairRefuses() {
        GloveCutters x = new GloveCutters();
        x.lay(0);
        Workshop.cutPair(x, 0);
        Check.refused("pair(0, 0) of none", INDEX, () -> x.pair(0, 0));
        x.sew(0);
        for (int far : FAR) {
            Check.refusedUnchanged(x, "pair: pair " + far, INDEX, () -> x.pair(far, 0));
            Check.refusedUnchanged(x, "pair: what " + far, INDEX, () -> x.pair(0, far));
        }
        Check.refusedUnchanged(x, "pair: pair 1 of 1", INDEX, () -> x.pair(1, 0));
        Check.refusedUnchanged(x, "pair: what 5", INDEX, () -> x.pair(0, 5));
    }

    private static void counts(GloveCutters x, String when, int... due) {
        for (int what = 0; what <= 6; what++) {
            Check.same(when + ": count(" + what + ")", due[what], x.count(what));
        }
    }

    private static void promise12Count() {
        GloveCutters x = new GloveCutters();
        x.lay(0);
        x.lay(0);
        counts(x, "skins", 2, 0, 0, 0, 0, 0, 0);
        Workshop.cutPair(x, 0);
        Workshop.cutPair(x, 1);
        Workshop.cutMany(x, 1, 3, 1);
        counts(x, "cut", 2, 29, 29, 0, 0, 0, 0);
        x.sew(0);
        counts(x, "one pair", 2, 29, 15, 14, 0, 1, 1);
        x.sew(0);
        counts(x, "two pairs", 2, 29, 1, 28, 0, 2, 2);
        x.rip(0);
        counts(x, "one ripped up", 2, 29, 9, 14, 6, 2, 1);
        x.rip(1);
        counts(x, "both ripped up", 2, 29, 17, 0, 12, 2, 0);
    }

    private static void promise12CountRefuses() {
        GloveCutters x = new GloveCutters();
        for (int far : FAR) {
            Check.refusedUnchanged(x, "count(" + far + ")", INDEX, () -> x.count(far));
        }
        Check.refusedUnchanged(x, "count(7)", INDEX, () -> x.count(7));
    }

    /** Twenty pairs need 120 fourchettes; the other pieces are ripped from the pair before. */
    private static void promise9And12At20Pairs() {
        GloveCutters x = new GloveCutters();
        for (int skin = 0; skin < 7; skin++) {
            x.lay(0);
        }
        Workshop.cutMany(x, 6, 0, 2);
        Workshop.cutMany(x, 6, 1, 2);
        Workshop.cutMany(x, 6, 3, 4);
        for (int pair = 0; pair < 20; pair++) {
            Workshop.cutMany(x, pair / 4, 2, 6);
            Check.same("sew " + pair, pair, x.sew(0));
            if (pair < 19) {
                Check.same("rip " + pair, 8, x.rip(pair));
            }
        }
        Workshop.cutMany(x, 5, 2, 6);
        Check.refusedUnchanged(x, "pieces lacking at 20", STATE, () -> x.sew(0));
        counts(x, "20 pairs", 7, 134, 6, 14, 114, 20, 1);
        x.rip(19);
        Check.same("pairs(0) goes on", 1, x.pairs(0));
        Check.refusedUnchanged(x, "a 21st pair", STATE, () -> x.sew(0));
        Check.refusedUnchanged(x, "a 21st pair of no colour", ARGUMENT, () -> x.sew(-1));
        counts(x, "20 pairs, all ripped up", 7, 134, 14, 0, 120, 20, 0);
    }
}
