/** Glove cutters: skins, the pieces cut from them, and the pairs sewn from those. */
public final class GloveCutters {

    private static final int MOST_SKINS = 10;
    private static final int MOST_PIECES = 150;
    private static final int MOST_PAIRS = 20;
    private static final int COLOURS = 6;
    private static final int SKIN_WIDE = 12;
    private static final int SKIN_HIGH = 8;
    private static final int SKIN_CELLS = SKIN_WIDE * SKIN_HIGH;

    // How a cell is. A cut cell needs no memory of what it was: it cannot be
    // marked again, and the thin cells of a piece are kept with the piece.
    private static final int WHOLE = 0;
    private static final int THIN = 1;
    private static final int HOLE = 2;
    private static final int CUT = 3;

    private static final int KINDS = 4;
    private static final int TRANK = 0;
    private static final int FOURCHETTE = 2;

    // By kind. A quirk may have any thin cells, and has but one cell.
    private static final int[] KIND_WIDE = {4, 2, 1, 1};
    private static final int[] KIND_HIGH = {3, 2, 3, 1};
    private static final int[] KIND_MOST_THIN = {0, 1, 1, 1};
    private static final int[] KIND_IN_PAIR = {2, 2, 6, 4};

    // Where a piece is, if not in a pair.
    private static final int FREE = -1;
    private static final int LOST = -2;

    // How many numbers skin(), piece(), pair() and count() each tell.
    private static final int SKIN_TELLS = 6;
    private static final int PIECE_TELLS = 4;
    private static final int PAIR_TELLS = 5;
    private static final int COUNT_TELLS = 7;

    private static final long DIGEST_START = 1087;
    private static final long DIGEST_FACTOR = 31;

    private int skins;
    private final int[] skinColour = new int[MOST_SKINS];
    private final int[] skinPieces = new int[MOST_SKINS];
    private final int[][] skinCells = new int[MOST_SKINS][SKIN_CELLS];

    private int pieces;
    private final int[] pieceSkin = new int[MOST_PIECES];
    private final int[] pieceKind = new int[MOST_PIECES];
    private final int[] pieceWhere = new int[MOST_PIECES];
    private final int[] pieceThin = new int[MOST_PIECES];

    private int sewn;
    private final int[] pairColour = new int[MOST_PAIRS];
    private final int[] pairTrankSkin = new int[MOST_PAIRS];
    private final int[] pairSkins = new int[MOST_PAIRS];
    private final int[] pairThin = new int[MOST_PAIRS];
    private final boolean[] pairRipped = new boolean[MOST_PAIRS];

    // One row for every trial cutting of gives(), so that no call makes one.
    private final int[] trialCells = new int[SKIN_CELLS];

    /** Creates a workshop without skins. */
    public GloveCutters() {
    }

    // ---- skins

    /** Lays out a new skin of this colour, and returns its number. */
    public int lay(int colour) throws IllegalArgumentException, IllegalStateException {
        needColour(colour);
        if (skins >= MOST_SKINS) {
            throw new IllegalStateException("there are 10 skins");
        }
        skinColour[skins] = colour;
        skins++;
        return skins - 1;
    }

    /** Marks a part of a skin as whole (0), thin (1) or holes (2); returns how many cells were otherwise. */
    public int mark(int skin, int x, int y, int wide, int high, int how)
            throws IndexOutOfBoundsException, IllegalArgumentException, IllegalStateException {
        needSkin(skin);
        needCell(x, y);
        if (wide < 1 || wide > SKIN_WIDE - x || high < 1 || high > SKIN_HIGH - y) {
            throw new IllegalArgumentException("the part is empty or not on the skin");
        }
        if (how < WHOLE || how > HOLE) {
            throw new IllegalArgumentException("how is not 0 to 2");
        }
        int[] cells = skinCells[skin];
        if (tally(cells, x, y, wide, high, CUT) > 0) {
            throw new IllegalStateException("a cell of it is cut");
        }
        int asBefore = tally(cells, x, y, wide, high, how);
        paint(cells, x, y, wide, high, how);
        return wide * high - asBefore;
    }

    /** Returns how a cell is: 0 whole, 1 thin, 2 a hole, 3 cut. */
    public int cell(int skin, int x, int y) throws IndexOutOfBoundsException {
        needSkin(skin);
        needCell(x, y);
        return skinCells[skin][SKIN_WIDE * y + x];
    }

    /**
     * Tells of a skin: 0 its colour, 1 its whole cells, 2 its thin ones, 3 its holes,
     * 4 its cut ones, 5 how many pieces were cut from it.
     */
    public int skin(int skin, int what) throws IndexOutOfBoundsException {
        needSkin(skin);
        needWhat(what, SKIN_TELLS);
        return tellSkin(skin, what);
    }

    // ---- pieces

    /** Cuts a piece with its upper left corner at a cell, and returns its number. */
    public int cut(int skin, int kind, boolean turned, int x, int y)
            throws IndexOutOfBoundsException, IllegalArgumentException, IllegalStateException {
        needSkin(skin);
        needCell(x, y);
        needKind(kind);
        int[] cells = skinCells[skin];
        if (!fits(cells, kind, turned, x, y)) {
            throw new IllegalStateException("it cannot be cut there");
        }
        if (pieces >= MOST_PIECES) {
            throw new IllegalStateException("150 pieces were cut");
        }
        int wide = wideOf(kind, turned);
        int high = highOf(kind, turned);
        pieceSkin[pieces] = skin;
        pieceKind[pieces] = kind;
        pieceWhere[pieces] = FREE;
        pieceThin[pieces] = tally(cells, x, y, wide, high, THIN);
        paint(cells, x, y, wide, high, CUT);
        skinPieces[skin]++;
        pieces++;
        return pieces - 1;
    }

    /** Returns 12 * y + x of the first place where such a piece can be cut, -1 if there is none. */
    public int place(int skin, int kind, boolean turned)
            throws IndexOutOfBoundsException, IllegalArgumentException {
        needSkin(skin);
        needKind(kind);
        return firstFit(skinCells[skin], kind, turned, 0);
    }

    /** Tells of a piece: 0 its skin, 1 its kind, 2 its pair, -1 if free, -2 if lost, 3 its thin cells. */
    public int piece(int piece, int what) throws IndexOutOfBoundsException {
        if (piece < 0 || piece >= pieces) {
            throw new IndexOutOfBoundsException("no such piece");
        }
        needWhat(what, PIECE_TELLS);
        return tellPiece(piece, what);
    }

    // ---- pairs

    /** Sews a pair of this colour, and returns its number. */
    public int sew(int colour) throws IllegalArgumentException, IllegalStateException {
        needColour(colour);
        for (int kind = 0; kind < KINDS; kind++) {
            if (lacking(colour, kind) > 0) {
                throw new IllegalStateException("pieces are lacking");
            }
        }
        if (sewn >= MOST_PAIRS) {
            throw new IllegalStateException("20 pairs were sewn");
        }
        enterPair(colour);
        return sewn - 1;
    }

    /** Rips a pair up for good, and returns how many pieces are free again. */
    public int rip(int pair) throws IndexOutOfBoundsException, IllegalStateException {
        needPair(pair);
        if (pairRipped[pair]) {
            throw new IllegalStateException("it is ripped up");
        }
        pairRipped[pair] = true;
        int freed = 0;
        for (int piece = 0; piece < pieces; piece++) {
            if (pieceWhere[piece] == pair) {
                boolean lost = pieceKind[piece] == FOURCHETTE;
                pieceWhere[piece] = lost ? LOST : FREE;
                freed += lost ? 0 : 1;
            }
        }
        return freed;
    }

    /**
     * Tells of a pair: 0 its colour, 1 the skin of its tranks, 2 how many skins its pieces
     * are from, 3 the thin cells in its pieces, 4 1 if it is ripped up, else 0.
     */
    public int pair(int pair, int what) throws IndexOutOfBoundsException {
        needPair(pair);
        needWhat(what, PAIR_TELLS);
        return tellPair(pair, what);
    }

    /**
     * Counts: 0 skins, 1 pieces cut in all, 2 those free, 3 those sewn, 4 those lost,
     * 5 pairs sewn in all, 6 those not ripped up.
     */
    public int count(int what) throws IndexOutOfBoundsException {
        needWhat(what, COUNT_TELLS);
        return tellCount(what);
    }

    // ---- what would be

    /** Returns how many such pieces could be cut from a skin, one after the other, each at the first place. */
    public int gives(int skin, int kind, boolean turned)
            throws IndexOutOfBoundsException, IllegalArgumentException {
        needSkin(skin);
        needKind(kind);
        return givenBy(skin, kind, turned);
    }

    /** Returns the skin that gives the most such pieces, the first of several, -1 if none gives any. */
    public int best(int kind, boolean turned) throws IllegalArgumentException {
        needKind(kind);
        int best = -1;
        int most = 0;
        for (int skin = 0; skin < skins; skin++) {
            int given = givenBy(skin, kind, turned);
            if (given > most) {
                most = given;
                best = skin;
            }
        }
        return best;
    }

    /** Returns how many more free pieces of this kind a pair of this colour needs. */
    public int lacks(int colour, int kind) throws IllegalArgumentException {
        needColour(colour);
        needKind(kind);
        return lacking(colour, kind);
    }

    /** Returns how many pairs of this colour could be sewn one after the other now. */
    public int pairs(int colour) throws IllegalArgumentException {
        needColour(colour);
        int fewest = trankPairs(colour);
        for (int kind = TRANK + 1; kind < KINDS; kind++) {
            fewest = Math.min(fewest, pairsFrom(freeOfColour(colour, kind), kind));
        }
        return fewest;
    }

    /** Returns the cut cells of all skins divided by all cells that are no holes, 0 if there are none. */
    public double share() {
        int cut = 0;
        int solid = 0;
        for (int skin = 0; skin < skins; skin++) {
            cut += tallySkin(skin, CUT);
            solid += SKIN_CELLS - tallySkin(skin, HOLE);
        }
        if (solid == 0) {
            return 0.0;
        }
        return (double) cut / (double) solid;
    }

    /** Computes a checksum of all that the object tells. */
    public long digest() {
        long d = DIGEST_START;
        for (int what = 0; what < COUNT_TELLS; what++) {
            d = d * DIGEST_FACTOR + tellCount(what);
        }
        for (int skin = 0; skin < skins; skin++) {
            d = digestSkin(d, skin);
        }
        for (int piece = 0; piece < pieces; piece++) {
            for (int what = 0; what < PIECE_TELLS; what++) {
                d = d * DIGEST_FACTOR + tellPiece(piece, what);
            }
        }
        for (int pair = 0; pair < sewn; pair++) {
            for (int what = 0; what < PAIR_TELLS; what++) {
                d = d * DIGEST_FACTOR + tellPair(pair, what);
            }
        }
        return d;
    }

    private long digestSkin(long start, int skin) {
        long d = start;
        for (int what = 0; what < SKIN_TELLS; what++) {
            d = d * DIGEST_FACTOR + tellSkin(skin, what);
        }
        for (int at = 0; at < SKIN_CELLS; at++) {
            d = d * DIGEST_FACTOR + skinCells[skin][at];
        }
        return d;
    }

    // ---- what the arguments must be

    private void needSkin(int skin) {
        if (skin < 0 || skin >= skins) {
            throw new IndexOutOfBoundsException("no such skin");
        }
    }

    private void needPair(int pair) {
        if (pair < 0 || pair >= sewn) {
            throw new IndexOutOfBoundsException("no such pair");
        }
    }

    private static void needCell(int x, int y) {
        if (x < 0 || x >= SKIN_WIDE || y < 0 || y >= SKIN_HIGH) {
            throw new IndexOutOfBoundsException("no such cell");
        }
    }

    private static void needWhat(int what, int tells) {
        if (what < 0 || what >= tells) {
            throw new IndexOutOfBoundsException("nothing is told by this number");
        }
    }

    private static void needColour(int colour) {
        if (colour < 0 || colour >= COLOURS) {
            throw new IllegalArgumentException("colour is not 0 to 5");
        }
    }

    private static void needKind(int kind) {
        if (kind < 0 || kind >= KINDS) {
            throw new IllegalArgumentException("kind is not 0 to 3");
        }
    }

    // ---- what is told, for numbers that were looked at before

    private int tellSkin(int skin, int what) {
        switch (what) {
            case 0:
                return skinColour[skin];
            case 1:
                return tallySkin(skin, WHOLE);
            case 2:
                return tallySkin(skin, THIN);
            case 3:
                return tallySkin(skin, HOLE);
            case 4:
                return tallySkin(skin, CUT);
            default:
                return skinPieces[skin];
        }
    }

    private int tellPiece(int piece, int what) {
        switch (what) {
            case 0:
                return pieceSkin[piece];
            case 1:
                return pieceKind[piece];
            case 2:
                return pieceWhere[piece];
            default:
                return pieceThin[piece];
        }
    }

    private int tellPair(int pair, int what) {
        switch (what) {
            case 0:
                return pairColour[pair];
            case 1:
                return pairTrankSkin[pair];
            case 2:
                return pairSkins[pair];
            case 3:
                return pairThin[pair];
            default:
                return pairRipped[pair] ? 1 : 0;
        }
    }

    private int tellCount(int what) {
        switch (what) {
            case 0:
                return skins;
            case 1:
                return pieces;
            case 2:
                return piecesAt(FREE);
            case 3:
                return pieces - piecesAt(FREE) - piecesAt(LOST);
            case 4:
                return piecesAt(LOST);
            case 5:
                return sewn;
            default:
                return pairsInUse();
        }
    }

    private int piecesAt(int where) {
        int found = 0;
        for (int piece = 0; piece < pieces; piece++) {
            if (pieceWhere[piece] == where) {
                found++;
            }
        }
        return found;
    }

    private int pairsInUse() {
        int found = 0;
        for (int pair = 0; pair < sewn; pair++) {
            if (!pairRipped[pair]) {
                found++;
            }
        }
        return found;
    }

    // ---- cells

    private int tallySkin(int skin, int how) {
        return tally(skinCells[skin], 0, 0, SKIN_WIDE, SKIN_HIGH, how);
    }

    private static int tally(int[] cells, int x, int y, int wide, int high, int how) {
        int found = 0;
        for (int row = y; row < y + high; row++) {
            for (int column = x; column < x + wide; column++) {
                if (cells[SKIN_WIDE * row + column] == how) {
                    found++;
                }
            }
        }
        return found;
    }

    private static void paint(int[] cells, int x, int y, int wide, int high, int how) {
        for (int row = y; row < y + high; row++) {
            for (int column = x; column < x + wide; column++) {
                cells[SKIN_WIDE * row + column] = how;
            }
        }
    }

    // ---- where pieces can be cut

    private static int wideOf(int kind, boolean turned) {
        return turned ? KIND_HIGH[kind] : KIND_WIDE[kind];
    }

    private static int highOf(int kind, boolean turned) {
        return turned ? KIND_WIDE[kind] : KIND_HIGH[kind];
    }

    private static boolean fits(int[] cells, int kind, boolean turned, int x, int y) {
        int wide = wideOf(kind, turned);
        int high = highOf(kind, turned);
        return wide <= SKIN_WIDE - x
                && high <= SKIN_HIGH - y
                && tally(cells, x, y, wide, high, HOLE) == 0
                && tally(cells, x, y, wide, high, CUT) == 0
                && tally(cells, x, y, wide, high, THIN) <= KIND_MOST_THIN[kind];
    }

    private static int firstFit(int[] cells, int kind, boolean turned, int from) {
        for (int at = from; at < SKIN_CELLS; at++) {
            if (fits(cells, kind, turned, at % SKIN_WIDE, at / SKIN_WIDE)) {
                return at;
            }
        }
        return -1;
    }

    private int givenBy(int skin, int kind, boolean turned) {
        int wide = wideOf(kind, turned);
        int high = highOf(kind, turned);
        System.arraycopy(skinCells[skin], 0, trialCells, 0, SKIN_CELLS);
        int given = 0;
        int at = firstFit(trialCells, kind, turned, 0);
        // A cut never opens a place, so the next first place lies behind this one.
        while (at >= 0 && given < SKIN_CELLS) {
            paint(trialCells, at % SKIN_WIDE, at / SKIN_WIDE, wide, high, CUT);
            given++;
            at = firstFit(trialCells, kind, turned, at + 1);
        }
        return given;
    }

    // ---- free pieces, and pairs made of them

    private boolean isFreeOfColour(int piece, int colour, int kind) {
        return pieceWhere[piece] == FREE
                && pieceKind[piece] == kind
                && skinColour[pieceSkin[piece]] == colour;
    }

    private int freeOfColour(int colour, int kind) {
        int found = 0;
        for (int piece = 0; piece < pieces; piece++) {
            if (isFreeOfColour(piece, colour, kind)) {
                found++;
            }
        }
        return found;
    }

    private int freeTranks(int skin) {
        int found = 0;
        for (int piece = 0; piece < pieces; piece++) {
            if (pieceWhere[piece] == FREE && pieceKind[piece] == TRANK && pieceSkin[piece] == skin) {
                found++;
            }
        }
        return found;
    }

    private int mostTranksOfOneSkin(int colour) {
        int most = 0;
        for (int skin = 0; skin < skins; skin++) {
            if (skinColour[skin] == colour) {
                most = Math.max(most, freeTranks(skin));
            }
        }
        return most;
    }

    private static int pairsFrom(int free, int kind) {
        int needed = KIND_IN_PAIR[kind];
        return needed > 0 ? free / needed : 0;
    }

    private int trankPairs(int colour) {
        int found = 0;
        for (int skin = 0; skin < skins; skin++) {
            if (skinColour[skin] == colour) {
                found += pairsFrom(freeTranks(skin), TRANK);
            }
        }
        return found;
    }

    private int lacking(int colour, int kind) {
        int free = kind == TRANK ? mostTranksOfOneSkin(colour) : freeOfColour(colour, kind);
        return Math.max(0, KIND_IN_PAIR[kind] - free);
    }

    private int firstSkinWithTranks(int colour) {
        for (int skin = 0; skin < skins; skin++) {
            if (skinColour[skin] == colour && freeTranks(skin) >= KIND_IN_PAIR[TRANK]) {
                return skin;
            }
        }
        return -1;
    }

    private void enterPair(int colour) {
        int trankSkin = firstSkinWithTranks(colour);
        pairColour[sewn] = colour;
        pairTrankSkin[sewn] = trankSkin;
        int skinBits = 0;
        for (int kind = 0; kind < KINDS; kind++) {
            int needed = KIND_IN_PAIR[kind];
            for (int piece = 0; piece < pieces && needed > 0; piece++) {
                boolean fromItsSkin = kind != TRANK || pieceSkin[piece] == trankSkin;
                if (fromItsSkin && isFreeOfColour(piece, colour, kind)) {
                    pieceWhere[piece] = sewn;
                    pairThin[sewn] += pieceThin[piece];
                    skinBits |= 1 << pieceSkin[piece];
                    needed--;
                }
            }
        }
        pairSkins[sewn] = Integer.bitCount(skinBits);
        sewn++;
    }
}
