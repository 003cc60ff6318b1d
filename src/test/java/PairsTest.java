/** Promises 9 to 12: sew, rip, pair, count; a test for each sentence. */
public final class PairsTest {
    public static void main(String[] args) {
        Check.runAll(PairsTest.class, args);
    }

    /** Where each piece is: the pair, -1 if it is free, -2 if it is lost. */
    private static void where(GloveCutters x, String when, int... due) {
        Check.same(when + ": pieces", due.length, x.count(1));
        for (int piece = 0; piece < due.length; piece++) {
            Check.same(when + ": piece " + piece, due[piece], x.piece(piece, 2));
        }
    }

    // ---- promise 9: sew

    static void promise9ColourNot0To5() {
        GloveCutters x = new GloveCutters();
        Check.refusedOutside(x, "sew without skins", 0, 5, Check.ARGUMENT, x::sew);
        for (int colour = 0; colour <= 5; colour++) {
            x.lay(colour);
            Workshop.cutPair(x, colour);
            Check.same("sew(" + colour + ")", colour, x.sew(colour));
            Check.same("its colour", colour, x.pair(colour, 0));
        }
    }

    static void promise9ColourIsNamedBeforeLackingPiecesAndThe20() {
        GloveCutters x = Workshop.laid(1, 0);
        Check.refusedOutside(x, "sew, pieces lacking", 0, 5, Check.ARGUMENT, x::sew);
        GloveCutters full = Workshop.with20Pairs();
        Check.refusedOutside(full, "sew at 20, pieces lacking", 0, 5, Check.ARGUMENT, full::sew);
    }

    static void promise9PiecesAreLackingWhereNoneIs() {
        GloveCutters x = new GloveCutters();
        for (int colour = 0; colour <= 5; colour++) {
            int one = colour;
            Check.refused(x, "sew(" + colour + ") without skins", Check.STATE, () -> x.sew(one));
        }
        x.lay(0);
        Check.refused(x, "sew(0) without pieces", Check.STATE, () -> x.sew(0));
    }

    /** All pieces of a pair of colour 3 but one of this kind; of another colour there is one. */
    private static GloveCutters oneLacking(int lacking) {
        GloveCutters x = Workshop.laid(2, 3);
        x.lay(4);
        for (int kind = 0; kind <= 3; kind++) {
            Workshop.cutMany(x, 0, kind, Workshop.NEEDED[kind] - (kind == lacking ? 1 : 0));
            Workshop.cutMany(x, 2, kind, 1);
        }
        return x;
    }

    static void promise9OnePieceIsLacking() {
        for (int kind = 0; kind <= 3; kind++) {
            GloveCutters x = oneLacking(kind);
            Check.refused(x, "one of kind " + kind + " is lacking", Check.STATE, () -> x.sew(3));
            Workshop.cutMany(x, kind == 0 ? 0 : 1, kind, 1);
            Check.same("none of kind " + kind + " is lacking", 0, x.sew(3));
        }
    }

    static void promise9TwoTranksOfTwoSkinsAreLacking() {
        GloveCutters x = oneLacking(0);
        Workshop.cutMany(x, 1, 0, 1);
        Check.refused(x, "two tranks of two skins", Check.STATE, () -> x.sew(3));
        Workshop.cutMany(x, 1, 0, 1);
        Check.same("two tranks of the second skin", 0, x.sew(3));
        Check.same("the skin of its tranks", 1, x.pair(0, 1));
    }

    static void promise9ExactlyThePiecesOfAPair() {
        GloveCutters x = Workshop.laid(1, 0);
        Workshop.cutPair(x, 0);
        Check.same("sew", 0, x.sew(0));
        where(x, "all are sewn", 0, 0, 0, 0, 0, 0, 0, 0, 0, 0, 0, 0, 0, 0);
        Check.refused(x, "sewn pieces are not free", Check.STATE, () -> x.sew(0));
    }

    static void promise9The20thIsSewn() {
        GloveCutters x = Workshop.with20Pairs();
        Check.same("pairs sewn", 20, x.count(5));
        Check.same("the last of them", 0, x.pair(19, 4));
    }

    static void promise9WhenThe20WereSewn() {
        GloveCutters x = Workshop.with20Pairs();
        Check.refused(x, "a 21st, pieces lacking", Check.STATE, () -> x.sew(0));
        x.lay(0);
        Workshop.cutPair(x, 6);
        Check.same("nothing is lacking", 1, x.pairs(0));
        Check.refused(x, "a 21st, nothing lacking", Check.STATE, () -> x.sew(0));
        x.rip(19);
        Check.refused(x, "a 21st, all ripped up", Check.STATE, () -> x.sew(0));
    }

    static void promise9WhenThe150WereCut() {
        GloveCutters x = Workshop.laid(10, 4);
        Workshop.cutPair(x, 9);
        Workshop.cutQuirks(x, 0, 96);
        Workshop.cutQuirks(x, 1, 40);
        Check.same("pieces", 150, x.count(1));
        Check.same("sew at 150 pieces", 0, x.sew(4));
        Check.same("rip at 150 pieces", 8, x.rip(0));
    }

    static void promise9TranksOfTheSmallestSkinWithTwoFree() {
        GloveCutters x = Workshop.laid(5, 2);
        // the smallest numbers are on skin 3; skin 0 has none, skin 1 a single one
        Workshop.cutMany(x, 3, 0, 2);
        Workshop.cutMany(x, 1, 0, 1);
        Workshop.cutMany(x, 2, 0, 3);
        for (int kind = 1; kind <= 3; kind++) {
            Workshop.cutMany(x, 4, kind, 2 * Workshop.NEEDED[kind]);
        }
        x.sew(2);
        Check.same("the skin of its tranks", 2, x.pair(0, 1));
        int[] due = {-1, -1, -1, 0, 0, -1};
        for (int piece = 0; piece <= 5; piece++) {
            Check.same("trank " + piece, due[piece], x.piece(piece, 2));
        }
        // skin 2 has a single free one left
        x.sew(2);
        Check.same("the next skin with two", 3, x.pair(1, 1));
        Check.same("trank 0", 1, x.piece(0, 2));
    }

    static void promise9TheTwoTranksWithTheSmallestNumbers() {
        GloveCutters x = Workshop.laid(2, 0);
        Workshop.cutMany(x, 1, 0, 1);
        Workshop.cutMany(x, 0, 0, 1);
        Workshop.cutMany(x, 1, 0, 3);
        for (int kind = 1; kind <= 3; kind++) {
            Workshop.cutMany(x, 0, kind, Workshop.NEEDED[kind]);
        }
        x.sew(0);
        int[] due = {0, -1, 0, -1, -1};
        for (int piece = 0; piece <= 4; piece++) {
            Check.same("trank " + piece, due[piece], x.piece(piece, 2));
        }
    }

    static void promise9OfOtherKindsTheSmallestNumbers() {
        for (int kind = 1; kind <= 3; kind++) {
            GloveCutters x = Workshop.laid(2, 1);
            int needed = Workshop.NEEDED[kind];
            // the first of its kind from the skin with the greater number
            Workshop.cutMany(x, 1, kind, needed - 1);
            Workshop.cutMany(x, 0, kind, 2);
            for (int other = 0; other <= 3; other++) {
                Workshop.cutMany(x, 0, other, other == kind ? 0 : Workshop.NEEDED[other]);
            }
            x.sew(1);
            for (int piece = 0; piece <= needed; piece++) {
                Check.same("kind " + kind + ", piece " + piece, piece < needed ? 0 : -1, x.piece(piece, 2));
            }
        }
    }

    static void promise9PiecesOfOtherColoursAreNotTaken() {
        GloveCutters x = new GloveCutters();
        x.lay(0);
        x.lay(5);
        Workshop.cutPair(x, 0);
        Workshop.cutPair(x, 1);
        Check.same("sew(5)", 0, x.sew(5));
        for (int piece = 0; piece < 28; piece++) {
            Check.same("piece " + piece, piece < 14 ? -1 : 0, x.piece(piece, 2));
        }
        Check.refused(x, "sew(5) again", Check.STATE, () -> x.sew(5));
        Check.same("sew(0)", 1, x.sew(0));
    }

    static void promise9OneKindOfAnotherColourIsLacking() {
        for (int kind = 0; kind <= 3; kind++) {
            GloveCutters x = Workshop.ofAnotherColour(kind);
            Check.refused(x, "kind " + kind + " of colour 3: sew(4)", Check.STATE, () -> x.sew(4));
            Check.refused(x, "kind " + kind + " of colour 3: sew(3)", Check.STATE, () -> x.sew(3));
        }
    }

    // ---- promise 10: rip

    static void promise10NoSuchPair() {
        GloveCutters x = Workshop.laid(1, 0);
        Check.refusedOutside(x, "rip of none", 0, -1, Check.INDEX, x::rip);
        Workshop.cutPair(x, 0);
        x.sew(0);
        Check.refusedOutside(x, "rip of one", 0, 0, Check.INDEX, x::rip);
        GloveCutters full = Workshop.with20Pairs();
        Check.refusedOutside(full, "rip of 20", 0, 19, Check.INDEX, full::rip);
        Check.same("rip the last of 20", 8, full.rip(19));
    }

    static void promise10ItIsRippedUpForGood() {
        GloveCutters x = Workshop.laid(1, 0);
        Workshop.cutPair(x, 0);
        x.sew(0);
        x.rip(0);
        Check.refused(x, "rip twice", Check.STATE, () -> x.rip(0));
        Workshop.cutMany(x, 0, 2, 6);
        Check.same("its pieces make another pair", 1, x.sew(0));
        Check.refused(x, "rip it again", Check.STATE, () -> x.rip(0));
        Check.same("the other can be ripped", 8, x.rip(1));
        GloveCutters full = Workshop.with20Pairs();
        for (int pair = 0; pair < 19; pair++) {
            int one = pair;
            Check.refused(full, "of 20, rip again " + pair, Check.STATE, () -> full.rip(one));
        }
    }

    static void promise10AllButFourchettesAreFreeAgain() {
        GloveCutters x = Workshop.laid(1, 0);
        Workshop.cutPair(x, 0);
        x.sew(0);
        Check.same("free again", 8, x.rip(0));
        where(x, "after rip", -1, -1, -1, -1, -2, -2, -2, -2, -2, -2, -1, -1, -1, -1);
    }

    static void promise10ThePiecesOfOtherPairsStaySewn() {
        GloveCutters x = Workshop.laid(2, 0);
        Workshop.cutPair(x, 0);
        Workshop.cutPair(x, 1);
        x.sew(0);
        x.sew(0);
        x.rip(1);
        for (int piece = 0; piece < 14; piece++) {
            Check.same("piece " + piece, 0, x.piece(piece, 2));
        }
        Check.same("the other pair is not ripped up", 0, x.pair(0, 4));
    }

    static void promise10FourchettesAreLostForGood() {
        GloveCutters x = Workshop.laid(1, 0);
        Workshop.cutPair(x, 0);
        x.sew(0);
        x.rip(0);
        Check.same("lacks all six", 6, x.lacks(0, 2));
        Check.same("pairs without them", 0, x.pairs(0));
        Check.refused(x, "sew without them", Check.STATE, () -> x.sew(0));
        Workshop.cutMany(x, 0, 2, 6);
        x.sew(0);
        where(x, "sewn with six more", 1, 1, 1, 1, -2, -2, -2, -2, -2, -2, 1, 1, 1, 1, 1, 1, 1, 1, 1, 1);
        x.rip(1);
        where(x, "ripped again", -1, -1, -1, -1, -2, -2, -2, -2, -2, -2, -1, -1, -1, -1, -2, -2, -2, -2, -2, -2);
    }

    static void promise10FreePiecesAreTakenByTheirOldNumbers() {
        GloveCutters x = Workshop.laid(2, 0);
        Workshop.cutPair(x, 0);
        x.sew(0);
        Workshop.cutPair(x, 1);
        x.rip(0);
        x.sew(0);
        for (int piece = 0; piece < 28; piece++) {
            boolean lost = piece >= 4 && piece < 10;
            boolean sewn = piece < 14 || piece >= 18 && piece < 24;
            Check.same("piece " + piece, lost ? -2 : sewn ? 1 : -1, x.piece(piece, 2));
        }
    }

    // ---- promise 11: pair

    static void promise11NoSuchPair() {
        GloveCutters x = Workshop.laid(1, 0);
        Check.refusedOutside(x, "pair of none", 0, -1, Check.INDEX, pair -> x.pair(pair, 0));
        Workshop.cutPair(x, 0);
        x.sew(0);
        for (int what = 0; what <= 4; what++) {
            int told = what;
            Check.refusedOutside(x, "of one, pair(.., " + what + ")", 0, 0, Check.INDEX, pair -> x.pair(pair, told));
        }
        GloveCutters full = Workshop.with20Pairs();
        Check.refusedOutside(full, "of 20, pair", 0, 19, Check.INDEX, pair -> full.pair(pair, 0));
        Check.same("trank skin of the last of 20", 5, full.pair(19, 1));
    }

    static void promise11WhatNot0To4() {
        GloveCutters x = new GloveCutters();
        x.lay(5);
        Workshop.cutPair(x, 0);
        x.sew(5);
        Check.refusedOutside(x, "pair: what", 0, 4, Check.INDEX, what -> x.pair(0, what));
        Check.same("what 0", 5, x.pair(0, 0));
        Check.same("what 4", 0, x.pair(0, 4));
    }

    private static void tells(GloveCutters x, String when, int pair, int... due) {
        for (int what = 0; what <= 4; what++) {
            Check.same(when + ": pair(" + pair + ", " + what + ")", due[what], x.pair(pair, what));
        }
    }

    static void promise11OfOneSkinWithoutThinCells() {
        GloveCutters x = Workshop.laid(1, 1);
        Workshop.cutPair(x, 0);
        x.sew(1);
        tells(x, "of one skin", 0, 1, 0, 1, 0, 0);
    }

    static void promise11OfAllTenSkins() {
        GloveCutters x = Workshop.laid(10, 2);
        Workshop.cutMany(x, 9, 0, 2);
        Workshop.cutMany(x, 0, 1, 1);
        Workshop.cutMany(x, 1, 1, 1);
        for (int skin = 2; skin <= 7; skin++) {
            Workshop.cutMany(x, skin, 2, 1);
        }
        Workshop.cutMany(x, 8, 3, 4);
        x.sew(2);
        tells(x, "of ten skins", 0, 2, 9, 10, 0, 0);
    }

    static void promise11ASkinCountsOnce() {
        for (int kind = 1; kind <= 3; kind++) {
            GloveCutters x = Workshop.laid(2, 0);
            for (int other = 0; other <= 3; other++) {
                Workshop.cutMany(x, other == kind ? 1 : 0, other, Workshop.NEEDED[other]);
            }
            x.sew(0);
            tells(x, "kind " + kind + " of a second skin", 0, 0, 0, 2, 0, 0);
        }
    }

    static void promise11AllPiecesThatMayHaveAThinCellHaveOne() {
        GloveCutters x = Workshop.laid(1, 0);
        x.mark(0, 0, 0, 1, 1, 1);
        x.mark(0, 2, 0, 1, 1, 1);
        x.mark(0, 0, 3, 6, 1, 1);
        x.mark(0, 0, 6, 4, 1, 1);
        x.cut(0, 0, false, 4, 0);
        x.cut(0, 0, false, 8, 0);
        x.cut(0, 1, false, 0, 0);
        x.cut(0, 1, false, 2, 0);
        for (int i = 0; i < 6; i++) {
            x.cut(0, 2, false, i, 3);
        }
        for (int i = 0; i < 4; i++) {
            x.cut(0, 3, false, i, 6);
        }
        x.sew(0);
        tells(x, "twelve thin cells", 0, 0, 0, 1, 12, 0);
    }

    static void promise11ThinCellsOfItsOwnPiecesAlone() {
        GloveCutters x = Workshop.laid(2, 0);
        Workshop.cutPair(x, 0);
        x.mark(1, 0, 0, 12, 8, 1);
        Workshop.cutMany(x, 1, 3, 4);
        x.sew(0);
        tells(x, "free thin quirks", 0, 0, 0, 1, 0, 0);
    }

    static void promise11RippedUpItsNumbersStayAsTheyWere() {
        GloveCutters x = new GloveCutters();
        x.lay(1);
        for (int skin = 1; skin <= 3; skin++) {
            x.lay(3);
        }
        x.mark(1, 0, 0, 1, 1, 1);
        x.mark(2, 0, 0, 1, 8, 1);
        Workshop.cutMany(x, 3, 0, 2);
        Workshop.cutMany(x, 1, 1, 2);
        Workshop.cutMany(x, 3, 2, 6);
        Workshop.cutMany(x, 2, 3, 4);
        x.sew(3);
        // one thin cell in the thumb at 0 0 of skin 1, one in the quirk at 0 0 of skin 2
        tells(x, "sewn", 0, 3, 3, 3, 2, 0);
        x.rip(0);
        tells(x, "ripped up", 0, 3, 3, 3, 2, 1);
        x.lay(3);
        x.mark(4, 0, 0, 1, 1, 1);
        Workshop.cutMany(x, 4, 2, 6);
        x.sew(3);
        tells(x, "ripped up, its pieces sewn again", 0, 3, 3, 3, 2, 1);
        // the pair with its pieces has fourchettes of a fourth skin, one of them with a thin cell
        tells(x, "the new pair", 1, 3, 3, 4, 3, 0);
        x.rip(1);
        tells(x, "both ripped up", 0, 3, 3, 3, 2, 1);
        tells(x, "both ripped up", 1, 3, 3, 4, 3, 1);
    }

    static void promise11EachOf20() {
        GloveCutters x = Workshop.with20Pairs();
        for (int pair = 0; pair < 20; pair++) {
            tells(x, "of 20", pair, 0, 5, 2, 0, pair < 19 ? 1 : 0);
        }
    }

    // ---- promise 12: count

    private static void counts(GloveCutters x, String when, int... due) {
        for (int what = 0; what <= 6; what++) {
            Check.same(when + ": count(" + what + ")", due[what], x.count(what));
        }
    }

    static void promise12WhatNot0To6() {
        GloveCutters x = Workshop.laid(2, 0);
        Check.refusedOutside(x, "count", 0, 6, Check.INDEX, x::count);
        Check.same("count(0)", 2, x.count(0));
        Workshop.cutPair(x, 0);
        x.sew(0);
        Check.same("count(6)", 1, x.count(6));
    }

    static void promise12OfANewObject() {
        counts(new GloveCutters(), "new", 0, 0, 0, 0, 0, 0, 0);
    }

    static void promise12FreeSewnAndLost() {
        GloveCutters x = Workshop.laid(2, 0);
        counts(x, "skins", 2, 0, 0, 0, 0, 0, 0);
        Workshop.cutPair(x, 0);
        Workshop.cutPair(x, 1);
        Workshop.cutMany(x, 1, 3, 1);
        counts(x, "cut", 2, 29, 29, 0, 0, 0, 0);
        x.sew(0);
        counts(x, "one pair", 2, 29, 15, 14, 0, 1, 1);
        x.sew(0);
        counts(x, "two pairs", 2, 29, 1, 28, 0, 2, 2);
        x.rip(0);
        counts(x, "one ripped up", 2, 29, 9, 14, 6, 2, 1);
        x.rip(1);
        counts(x, "both ripped up", 2, 29, 17, 0, 12, 2, 0);
    }

    static void promise12AtTheLimits() {
        GloveCutters x = Workshop.with20Pairs();
        counts(x, "20 pairs", 6, 128, 0, 14, 114, 20, 1);
        for (int skin = 6; skin < 10; skin++) {
            x.lay(0);
        }
        Workshop.cutQuirks(x, 9, 22);
        counts(x, "10 skins, 150 pieces, 20 pairs", 10, 150, 22, 14, 114, 20, 1);
        x.rip(19);
        counts(x, "all ripped up", 10, 150, 30, 0, 120, 20, 0);
        GloveCutters free = Workshop.with150Pieces();
        counts(free, "150 free ones", 2, 150, 150, 0, 0, 0, 0);
    }
}
