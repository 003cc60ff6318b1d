/** Promises 13 to 18: gives, best, lacks, pairs, share, digest. */
public final class WouldBeTest {
    private static final Class<IndexOutOfBoundsException> INDEX = IndexOutOfBoundsException.class;
    private static final Class<IllegalArgumentException> ARGUMENT = IllegalArgumentException.class;
    private static final int[] FAR = {Integer.MIN_VALUE, -1, Integer.MAX_VALUE};

    public static void main(String[] args) {
        promise13Gives();
        promise13GivesRefuses();
        promise14Best();
        promise14BestRefuses();
        promise15Lacks();
        promise15LacksRefuses();
        promise16Pairs();
        promise16PairsRefuses();
        promise17Share();
        promise18Digest();
        Check.end();
    }

    private static void promise13Gives() {
        GloveCutters x = new GloveCutters();
        x.lay(0);
        int[] upright = {3 * 2, 6 * 4, 12 * 2, 12 * 8};
        int[] turned = {4 * 2, 6 * 4, 4 * 8, 12 * 8};
        for (int kind = 0; kind <= 3; kind++) {
            Check.same("a whole skin gives kind " + kind, upright[kind], x.gives(0, kind, false));
            Check.same("a whole skin gives turned kind " + kind, turned[kind], x.gives(0, kind, true));
        }
        Check.same("gives changes nothing", 96, x.skin(0, 1));
        x.mark(0, 1, 0, 1, 1, 2);
        // a hole in the first row moves the tranks there, and two instead of three stand beside it
        Check.same("around a hole", 5, x.gives(0, 0, false));
        x.mark(0, 0, 0, 12, 8, 1);
        Check.same("thin: tranks", 0, x.gives(0, 0, false));
        Check.same("thin: thumbs", 0, x.gives(0, 1, false));
        Check.same("thin: fourchettes", 0, x.gives(0, 2, true));
        Check.same("thin: quirks", 96, x.gives(0, 3, false));
        x.mark(0, 0, 0, 12, 8, 2);
        Check.same("holes: quirks", 0, x.gives(0, 3, false));
        GloveCutters y = new GloveCutters();
        y.lay(0);
        y.cut(0, 0, false, 4, 0);
        Check.same("around a cut", 5, y.gives(0, 0, false));
        Check.same("the digest is the same after gives", y.digest(), afterGives(y));
    }

    private static long afterGives(GloveCutters x) {
        x.gives(0, 1, true);
        x.best(2, false);
        return x.digest();
    }

    private static void promise13GivesRefuses() {
        GloveCutters x = new GloveCutters();
        Check.refused("gives(0, 0) without skins", INDEX, () -> x.gives(0, 0, false));
        x.lay(0);
        for (int far : FAR) {
            Check.refusedUnchanged(x, "gives: skin " + far, INDEX, () -> x.gives(far, 0, false));
            Check.refusedUnchanged(x, "gives: kind " + far, ARGUMENT, () -> x.gives(0, far, true));
        }
        Check.refusedUnchanged(x, "gives: skin 1 of 1", INDEX, () -> x.gives(1, 0, false));
        Check.refusedUnchanged(x, "gives: kind 4", ARGUMENT, () -> x.gives(0, 4, false));
        Check.refusedUnchanged(x, "gives: no skin before wrong kind", INDEX, () -> x.gives(1, 4, false));
    }

    private static void promise14Best() {
        GloveCutters x = new GloveCutters();
        Check.same("best without skins", -1, x.best(3, false));
        x.lay(0);
        x.mark(0, 0, 0, 12, 8, 2);
        Check.same("best where none gives any", -1, x.best(3, false));
        x.lay(1);
        x.lay(2);
        Check.same("best of two alike", 1, x.best(0, false));
        x.mark(1, 0, 0, 1, 1, 1);
        Check.same("best: the other", 2, x.best(0, true));
        Check.same("best: thin is the same for quirks", 1, x.best(3, true));
        x.mark(2, 11, 7, 1, 1, 2);
        Check.same("best: the one with more", 1, x.best(3, false));
        x.mark(1, 0, 0, 12, 8, 2);
        x.mark(2, 0, 0, 12, 8, 2);
        x.mark(2, 4, 4, 1, 1, 1);
        Check.same("best: one alone gives one", 2, x.best(3, false));
        // 3 high and 12 wide: turned tranks do not fit, upright ones do
        GloveCutters y = new GloveCutters();
        y.lay(0);
        y.lay(0);
        y.mark(0, 0, 3, 12, 5, 2);
        y.mark(1, 0, 4, 12, 4, 2);
        y.mark(1, 8, 0, 4, 8, 2);
        Check.same("best upright", 0, y.best(0, false));
        Check.same("best turned", 1, y.best(0, true));
    }

    private static void promise14BestRefuses() {
        GloveCutters x = new GloveCutters();
        for (int far : FAR) {
            Check.refusedUnchanged(x, "best: kind " + far, ARGUMENT, () -> x.best(far, false));
        }
        Check.refusedUnchanged(x, "best: kind 4", ARGUMENT, () -> x.best(4, true));
    }

    private static void lacks(GloveCutters x, String when, int colour, int... due) {
        for (int kind = 0; kind <= 3; kind++) {
            Check.same(when + ": lacks(" + colour + ", " + kind + ")", due[kind], x.lacks(colour, kind));
        }
    }

    private static void promise15Lacks() {
        GloveCutters x = new GloveCutters();
        lacks(x, "no skins", 0, 2, 2, 6, 4);
        GloveCutters y = new GloveCutters();
        y.lay(0);
        Workshop.cutMany(y, 0, 1, 1);
        lacks(y, "the first piece a thumb", 0, 2, 1, 6, 4);
        x.lay(0);
        x.lay(0);
        x.lay(1);
        Workshop.cutMany(x, 0, 0, 1);
        Workshop.cutMany(x, 1, 0, 1);
        Workshop.cutMany(x, 0, 1, 1);
        Workshop.cutMany(x, 1, 1, 1);
        Workshop.cutMany(x, 0, 2, 2);
        Workshop.cutMany(x, 1, 2, 3);
        Workshop.cutMany(x, 1, 3, 5);
        lacks(x, "tranks of two skins", 0, 1, 0, 1, 0);
        lacks(x, "the other colour", 1, 2, 2, 6, 4);
        Workshop.cutMany(x, 1, 0, 2);
        Workshop.cutMany(x, 0, 2, 1);
        lacks(x, "nothing, and tranks more than needed", 0, 0, 0, 0, 0);
        x.sew(0);
        lacks(x, "after sew", 0, 1, 2, 6, 3);
        x.rip(0);
        lacks(x, "after rip, fourchettes lost", 0, 0, 0, 6, 0);
        GloveCutters full = new GloveCutters();
        for (int skin = 0; skin < 10; skin++) {
            full.lay(skin == 9 ? 4 : 5);
        }
        Workshop.cutMany(full, 0, 3, 96);
        Workshop.cutMany(full, 1, 3, 40);
        Workshop.cutPair(full, 9);
        lacks(full, "at 10 skins and 150 pieces", 4, 0, 0, 0, 0);
        Check.same("pairs at 10 skins and 150 pieces", 1, full.pairs(4));
        Check.same("count of free ones at 150 pieces", 150, full.count(2));
        Check.same("best at 10 skins", 2, full.best(0, false));
        Check.same("sew at 10 skins and 150 pieces", 0, full.sew(4));
        Check.refusedUnchanged(full, "sew again there", IllegalStateException.class, () -> full.sew(4));
        Check.same("rip at 150 pieces", 8, full.rip(0));
    }

    private static void promise15LacksRefuses() {
        GloveCutters x = new GloveCutters();
        for (int far : FAR) {
            Check.refusedUnchanged(x, "lacks: colour " + far, ARGUMENT, () -> x.lacks(far, 0));
            Check.refusedUnchanged(x, "lacks: kind " + far, ARGUMENT, () -> x.lacks(0, far));
        }
        Check.refusedUnchanged(x, "lacks: colour 6", ARGUMENT, () -> x.lacks(6, 0));
        Check.refusedUnchanged(x, "lacks: kind 4", ARGUMENT, () -> x.lacks(0, 4));
    }

    private static void promise16Pairs() {
        GloveCutters x = new GloveCutters();
        Check.same("pairs without skins", 0, x.pairs(0));
        for (int skin = 0; skin < 4; skin++) {
            x.lay(0);
        }
        // five tranks on two skins are two pairs, not three with the single one of a third skin
        Workshop.cutMany(x, 0, 0, 3);
        Workshop.cutMany(x, 1, 0, 2);
        Workshop.cutMany(x, 2, 0, 1);
        Workshop.cutMany(x, 3, 1, 6);
        Workshop.cutMany(x, 3, 2, 17);
        Check.same("without quirks", 0, x.pairs(0));
        Workshop.cutMany(x, 3, 3, 12);
        Check.same("as many as tranks and fourchettes allow", 2, x.pairs(0));
        Workshop.cutMany(x, 2, 2, 1);
        Check.same("as many as tranks allow", 2, x.pairs(0));
        Workshop.cutMany(x, 2, 0, 1);
        Check.same("three", 3, x.pairs(0));
        Check.same("the other colour", 0, x.pairs(1));
        Check.same("pairs changes nothing", 0, x.count(5));
        for (int left = 2; left >= 0; left--) {
            x.sew(0);
            Check.same("pairs after sew", left, x.pairs(0));
        }
        x.rip(1);
        Check.same("pairs after rip", 0, x.pairs(0));
        for (int kind = 0; kind <= 3; kind++) {
            GloveCutters y = new GloveCutters();
            y.lay(5);
            y.lay(5);
            Workshop.cutPair(y, 0);
            Workshop.cutMany(y, 1, 0, kind == 0 ? 1 : 2);
            Workshop.cutMany(y, 1, 1, kind == 1 ? 1 : 2);
            Workshop.cutMany(y, 1, 2, kind == 2 ? 5 : 6);
            Workshop.cutMany(y, 1, 3, kind == 3 ? 3 : 4);
            Check.same("one of kind " + kind + " too few for two", 1, y.pairs(5));
            Workshop.cutMany(y, 1, kind, 1);
            Check.same("two pairs", 2, y.pairs(5));
        }
    }

    private static void promise16PairsRefuses() {
        GloveCutters x = new GloveCutters();
        for (int far : FAR) {
            Check.refusedUnchanged(x, "pairs(" + far + ")", ARGUMENT, () -> x.pairs(far));
        }
        Check.refusedUnchanged(x, "pairs(6)", ARGUMENT, () -> x.pairs(6));
    }

    private static void promise17Share() {
        GloveCutters x = new GloveCutters();
        Check.sameDouble("without skins", 0.0, x.share());
        x.lay(0);
        Check.sameDouble("nothing cut", 0.0, x.share());
        x.mark(0, 0, 0, 12, 8, 2);
        Check.sameDouble("holes alone", 0.0, x.share());
        x.mark(0, 0, 0, 4, 3, 0);
        x.cut(0, 0, false, 0, 0);
        Check.sameDouble("all is cut", 1.0, x.share());
        x.lay(1);
        Check.sameDouble("of two skins", 12.0 / 108.0, x.share());
        x.mark(1, 0, 0, 12, 1, 1);
        x.mark(1, 0, 7, 5, 1, 2);
        x.cut(1, 3, false, 0, 0);
        Check.sameDouble("thin ones count, holes do not", 13.0 / 103.0, x.share());
    }

    private static void promise18Digest() {
        long d = 1087;
        for (int i = 0; i < 7; i++) {
            d = d * 31;
        }
        Check.same("digest of a new object", d, new GloveCutters().digest());
        GloveCutters x = twoSkins();
        Check.same("digest of pieces", told(x), x.digest());
        GloveCutters y = twoSkins();
        y.sew(2);
        y.rip(0);
        Workshop.cutMany(y, 0, 2, 6);
        y.sew(2);
        Check.same("digest of pairs", told(y), y.digest());
        Check.same("digest again", y.digest(), y.digest());
    }

    private static GloveCutters twoSkins() {
        GloveCutters x = new GloveCutters();
        x.lay(2);
        x.lay(2);
        x.mark(1, 0, 0, 3, 1, 1);
        x.mark(0, 11, 0, 1, 8, 2);
        Workshop.cutMany(x, 0, 0, 2);
        Workshop.cutMany(x, 1, 1, 2);
        Workshop.cutMany(x, 1, 2, 6);
        Workshop.cutMany(x, 0, 3, 4);
        return x;
    }

    /** The digest by what the other calls tell; for few calls, since every cell is one. */
    private static long told(GloveCutters x) {
        long d = 1087;
        for (int what = 0; what <= 6; what++) {
            d = d * 31 + x.count(what);
        }
        for (int skin = 0; skin < x.count(0); skin++) {
            for (int what = 0; what <= 5; what++) {
                d = d * 31 + x.skin(skin, what);
            }
            for (int at = 0; at < 96; at++) {
                d = d * 31 + x.cell(skin, at % 12, at / 12);
            }
        }
        for (int piece = 0; piece < x.count(1); piece++) {
            for (int what = 0; what <= 3; what++) {
                d = d * 31 + x.piece(piece, what);
            }
        }
        for (int pair = 0; pair < x.count(5); pair++) {
            for (int what = 0; what <= 4; what++) {
                d = d * 31 + x.pair(pair, what);
            }
        }
        return d;
    }
}
