/** Cuts many pieces at once, each at the first place, for tests of pairs. */
final class Workshop {
    private Workshop() {
    }

    static void cutMany(GloveCutters x, int skin, int kind, int many) {
        for (int i = 0; i < many; i++) {
            int at = x.place(skin, kind, false);
            if (at < 0) {
                throw new IllegalStateException("the test asks for more of kind " + kind + " than skin " + skin + " gives");
            }
            x.cut(skin, kind, false, at % 12, at / 12);
        }
    }

    /** Cuts the pieces of one pair from one skin: 14 numbers, in the order of the kinds. */
    static void cutPair(GloveCutters x, int skin) {
        cutMany(x, skin, 0, 2);
        cutMany(x, skin, 1, 2);
        cutMany(x, skin, 2, 6);
        cutMany(x, skin, 3, 4);
    }
}
