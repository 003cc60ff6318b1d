/** Workshops in the states that the tests begin with, and many pieces cut at once. */
final class Workshop {
    static final boolean[] BOTH_WAYS = {false, true};
    static final int[] NEEDED = {2, 2, 6, 4};

    private static final int[] WIDE = {4, 2, 1, 1};
    private static final int[] HIGH = {3, 2, 3, 1};

    private Workshop() {
    }

    static int wide(int kind, boolean turned) {
        return turned ? HIGH[kind] : WIDE[kind];
    }

    static int high(int kind, boolean turned) {
        return turned ? WIDE[kind] : HIGH[kind];
    }

    static String named(int kind, boolean turned) {
        return (turned ? "turned kind " : "kind ") + kind;
    }

    /** A new object with this many skins, all of one colour. */
    static GloveCutters laid(int skins, int colour) {
        GloveCutters x = new GloveCutters();
        for (int skin = 0; skin < skins; skin++) {
            x.lay(colour);
        }
        return x;
    }

    /** Makes all of a skin holes but this part. */
    static void holesBut(GloveCutters x, int skin, int cx, int cy, int wide, int high) {
        x.mark(skin, 0, 0, 12, 8, 2);
        x.mark(skin, cx, cy, wide, high, 0);
    }

    /** Cuts pieces, not turned, each at the first place. */
    static void cutMany(GloveCutters x, int skin, int kind, int many) {
        for (int i = 0; i < many; i++) {
            int at = x.place(skin, kind, false);
            if (at < 0) {
                throw new IllegalStateException("the test asks for more of kind " + kind + " than skin " + skin + " gives");
            }
            x.cut(skin, kind, false, at % 12, at / 12);
        }
    }

    /** Cuts the pieces of one pair from one skin: 14 numbers, in the order of the kinds. */
    static void cutPair(GloveCutters x, int skin) {
        for (int kind = 0; kind <= 3; kind++) {
            cutMany(x, skin, kind, NEEDED[kind]);
        }
    }

    /** The pieces of one pair, those of this kind from skin 1 of colour 3, the others from skin 0 of colour 4. */
    static GloveCutters ofAnotherColour(int kind) {
        GloveCutters x = new GloveCutters();
        x.lay(4);
        x.lay(3);
        for (int other = 0; other <= 3; other++) {
            cutMany(x, other == kind ? 1 : 0, other, NEEDED[other]);
        }
        return x;
    }

    /** Cuts quirks in the order of the cells, cell 0 to many - 1. */
    static void cutQuirks(GloveCutters x, int skin, int many) {
        for (int at = 0; at < many; at++) {
            x.cut(skin, 3, false, at % 12, at / 12);
        }
    }

    /** Two skins and 150 quirks: skin 0 all cut, and cells 0 to 53 of skin 1. */
    static GloveCutters with150Pieces() {
        GloveCutters x = laid(2, 0);
        cutQuirks(x, 0, 96);
        cutQuirks(x, 1, 54);
        return x;
    }

    /**
     * Twenty pairs need 120 fourchettes, 24 of each of the skins 0 to 4; the other
     * pieces, of skin 5, are each time those of the pair that was ripped up before.
     * Pieces 0 to 7 are these others; pair 19 alone is not ripped up. 174 calls.
     */
    static GloveCutters with20Pairs() {
        GloveCutters x = laid(6, 0);
        x.cut(5, 0, false, 0, 0);
        x.cut(5, 0, false, 4, 0);
        x.cut(5, 1, false, 8, 0);
        x.cut(5, 1, false, 10, 0);
        for (int i = 0; i < 4; i++) {
            x.cut(5, 3, false, i, 7);
        }
        for (int pair = 0; pair < 20; pair++) {
            if (pair > 0) {
                x.rip(pair - 1);
            }
            for (int i = 6 * (pair % 4); i < 6 * (pair % 4) + 6; i++) {
                x.cut(pair / 4, 2, false, i % 12, 3 * (i / 12));
            }
            x.sew(0);
        }
        return x;
    }
}
