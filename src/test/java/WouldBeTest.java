import java.math.BigInteger;
import java.util.ArrayList;
import java.util.List;

/** Promises 13 to 18: gives, best, lacks, pairs, share, digest; a test for each sentence. */
public final class WouldBeTest {
    interface Made {
        GloveCutters anew();
    }

    public static void main(String[] args) {
        Check.runAll(WouldBeTest.class, args);
    }

    // ---- promise 13: gives

    static void promise13NoSuchSkin() {
        GloveCutters x = Workshop.laid(2, 0);
        Check.refusedOutside(x, "gives: skin", 0, 1, Check.INDEX, skin -> x.gives(skin, 0, false));
        GloveCutters full = Workshop.laid(10, 0);
        Check.refusedOutside(full, "of 10, gives: skin", 0, 9, Check.INDEX, skin -> full.gives(skin, 0, false));
        Check.same("gives of the last of 10", 6, full.gives(9, 0, false));
    }

    static void promise13KindNot0To3() {
        GloveCutters x = Workshop.laid(1, 0);
        for (boolean turned : Workshop.BOTH_WAYS) {
            Check.refusedOutside(x, "gives: kind", 0, 3, Check.ARGUMENT, kind -> x.gives(0, kind, turned));
        }
        Check.same("gives of kind 0", 6, x.gives(0, 0, false));
        Check.same("gives of kind 3", 96, x.gives(0, 3, false));
    }

    static void promise13NoSuchSkinIsNamedFirst() {
        GloveCutters x = Workshop.laid(1, 0);
        Check.refusedOutside(x, "gives: no kind 4, and skin", 0, 0, Check.INDEX, skin -> x.gives(skin, 4, false));
        Check.refusedOutside(x, "gives: no kind -1, and skin", 0, 0, Check.INDEX, skin -> x.gives(skin, -1, true));
    }

    private static void gives(GloveCutters x, String of, boolean turned, int... due) {
        for (int kind = 0; kind <= 3; kind++) {
            Check.same(of + " gives " + Workshop.named(kind, turned), due[kind], x.gives(0, kind, turned));
        }
    }

    static void promise13OfAWholeSkin() {
        GloveCutters x = Workshop.laid(1, 0);
        gives(x, "a whole skin", false, 3 * 2, 6 * 4, 12 * 2, 12 * 8);
        gives(x, "a whole skin", true, 4 * 2, 6 * 4, 4 * 8, 12 * 8);
    }

    static void promise13NoneOfHolesOrCutCells() {
        GloveCutters x = Workshop.laid(1, 0);
        x.mark(0, 0, 0, 12, 8, 2);
        GloveCutters y = Workshop.laid(1, 0);
        Workshop.cutQuirks(y, 0, 96);
        for (boolean turned : Workshop.BOTH_WAYS) {
            gives(x, "a skin of holes", turned, 0, 0, 0, 0);
            gives(y, "a skin all cut", turned, 0, 0, 0, 0);
        }
    }

    static void promise13OfThinCellsQuirksAlone() {
        GloveCutters x = Workshop.laid(1, 0);
        x.mark(0, 0, 0, 12, 8, 1);
        for (boolean turned : Workshop.BOTH_WAYS) {
            gives(x, "a thin skin", turned, 0, 0, 0, 96);
        }
    }

    static void promise13EachMayHaveItsOwnThinCell() {
        GloveCutters x = Workshop.laid(1, 0);
        for (int at = 0; at < 24; at++) {
            x.mark(0, 2 * (at % 6), 2 * (at / 6), 1, 1, 1);
        }
        Check.same("24 thumbs with a thin cell each", 24, x.gives(0, 1, false));
    }

    static void promise13EachAtTheFirstPlace() {
        GloveCutters x = Workshop.laid(1, 0);
        x.mark(0, 0, 0, 12, 8, 2);
        x.mark(0, 1, 0, 4, 1, 0);
        x.mark(0, 0, 1, 8, 3, 0);
        // two tranks could lie side by side in rows 1 to 3, but the first place is above them
        Check.same("the first place", 1, x.place(0, 0, false));
        Check.same("it leaves no other", 1, x.gives(0, 0, false));
        x.mark(0, 1, 0, 4, 1, 2);
        Check.same("side by side", 2, x.gives(0, 0, false));
    }

    static void promise13HoweverManyWereCut() {
        GloveCutters x = Workshop.with150Pieces();
        Check.same("of a skin of which 54 cells are cut", 42, x.gives(1, 3, false));
        x.lay(0);
        Check.same("of a whole skin", 96, x.gives(2, 3, false));
    }

    static void promise13NothingIsChanged() {
        GloveCutters x = Workshop.laid(2, 0);
        x.mark(1, 3, 3, 2, 2, 1);
        x.cut(1, 0, true, 0, 0);
        long before = x.digest();
        for (int kind = 0; kind <= 3; kind++) {
            for (boolean turned : Workshop.BOTH_WAYS) {
                int given = x.gives(1, kind, turned);
                Check.same("digest after gives", before, x.digest());
                Check.same("gives the same again", given, x.gives(1, kind, turned));
            }
        }
        Check.same("the next piece's number", 1, x.cut(1, 3, false, 11, 7));
    }

    // ---- promise 14: best

    static void promise14KindNot0To3() {
        GloveCutters x = Workshop.laid(1, 0);
        GloveCutters none = new GloveCutters();
        for (boolean turned : Workshop.BOTH_WAYS) {
            Check.refusedOutside(x, "best: kind", 0, 3, Check.ARGUMENT, kind -> x.best(kind, turned));
            Check.refusedOutside(none, "without skins, best: kind", 0, 3, Check.ARGUMENT, kind -> none.best(kind, turned));
            for (int kind = 0; kind <= 3; kind++) {
                Check.same("best of " + Workshop.named(kind, turned), 0, x.best(kind, turned));
            }
        }
    }

    static void promise14NoneGivesAny() {
        GloveCutters none = new GloveCutters();
        GloveCutters holes = Workshop.laid(2, 0);
        holes.mark(0, 0, 0, 12, 8, 2);
        holes.mark(1, 0, 0, 12, 8, 2);
        for (int kind = 0; kind <= 3; kind++) {
            Check.same("best without skins", -1, none.best(kind, false));
            Check.same("best of holes", -1, holes.best(kind, true));
        }
        holes.mark(1, 11, 7, 1, 1, 1);
        Check.same("a quirk of one thin cell", 1, holes.best(3, false));
        Check.same("no thumb of it", -1, holes.best(1, false));
    }

    static void promise14OfSeveralTheSmallestNumber() {
        GloveCutters x = Workshop.laid(10, 0);
        for (int skin = 0; skin < 9; skin++) {
            Check.same("the first of those alike", skin, x.best(0, false));
            x.mark(skin, 5, 4, 1, 1, 2);
        }
        Check.same("the last alone", 9, x.best(0, false));
        x.mark(9, 5, 4, 1, 1, 2);
        Check.same("all alike again", 0, x.best(0, false));
    }

    static void promise14TheMostWhereverItIs() {
        for (int most = 0; most < 10; most++) {
            GloveCutters x = Workshop.laid(10, 0);
            for (int skin = 0; skin < 10; skin++) {
                x.mark(skin, 0, 0, 12, 1, skin == most ? 0 : 2);
                x.mark(skin, 0, 1, 1, 1, 2);
            }
            Check.same("the one with a row more", most, x.best(3, false));
        }
    }

    static void promise14TurnedOrNot() {
        GloveCutters x = Workshop.laid(2, 0);
        // skin 0 is 12 wide and 3 high, skin 1 is 8 wide and 4 high
        Workshop.holesBut(x, 0, 0, 0, 12, 3);
        Workshop.holesBut(x, 1, 0, 0, 8, 4);
        Check.same("best upright", 0, x.best(0, false));
        Check.same("best turned", 1, x.best(0, true));
    }

    static void promise14HoweverManyWereCut() {
        GloveCutters x = Workshop.with150Pieces();
        Check.same("best at 150 pieces", 1, x.best(3, false));
    }

    // ---- promise 15: lacks

    private static void lacks(GloveCutters x, String when, int colour, int... due) {
        for (int kind = 0; kind <= 3; kind++) {
            Check.same(when + ": lacks(" + colour + ", " + kind + ")", due[kind], x.lacks(colour, kind));
        }
    }

    static void promise15ColourNot0To5() {
        GloveCutters x = Workshop.laid(1, 0);
        for (int kind = -1; kind <= 4; kind++) {
            int one = kind;
            Check.refusedOutside(x, "lacks: kind " + kind + ", colour", 0, 5, Check.ARGUMENT, colour -> x.lacks(colour, one));
        }
        for (int colour = 0; colour <= 5; colour++) {
            Check.same("lacks(" + colour + ", 0)", 2, x.lacks(colour, 0));
        }
    }

    static void promise15KindNot0To3() {
        GloveCutters x = Workshop.laid(1, 0);
        for (int colour = 0; colour <= 5; colour++) {
            int one = colour;
            Check.refusedOutside(x, "lacks: colour " + colour + ", kind", 0, 3, Check.ARGUMENT, kind -> x.lacks(one, kind));
        }
        lacks(x, "no pieces", 5, 2, 2, 6, 4);
    }

    static void promise15AllWhereNoneIsFree() {
        for (int colour = 0; colour <= 5; colour++) {
            lacks(new GloveCutters(), "no skins", colour, 2, 2, 6, 4);
            lacks(Workshop.laid(10, colour), "no pieces", colour, 2, 2, 6, 4);
        }
    }

    static void promise15OneLessForEachFreePieceAndAtLeast0() {
        for (int kind = 0; kind <= 3; kind++) {
            GloveCutters x = Workshop.laid(1, 0);
            for (int free = 1; free <= 6; free++) {
                Workshop.cutMany(x, 0, kind, 1);
                int[] due = Workshop.NEEDED.clone();
                due[kind] = Math.max(0, due[kind] - free);
                lacks(x, free + " of kind " + kind, 0, due);
            }
            Workshop.cutMany(x, 0, kind, kind == 0 ? 0 : 2);
            Check.same("more than needed of kind " + kind, 0, x.lacks(0, kind));
        }
    }

    static void promise15TranksOfOneSkinAlone() {
        GloveCutters x = Workshop.laid(10, 0);
        for (int skin = 0; skin < 10; skin++) {
            Workshop.cutMany(x, skin, 0, 1);
            Check.same("a trank of each skin to " + skin, 1, x.lacks(0, 0));
        }
        Workshop.cutMany(x, 9, 0, 1);
        Check.same("a second one of the last skin", 0, x.lacks(0, 0));
    }

    static void promise15OtherKindsOfAllSkins() {
        GloveCutters x = Workshop.laid(10, 0);
        for (int kind = 1; kind <= 3; kind++) {
            for (int skin = 10 - Workshop.NEEDED[kind]; skin < 10; skin++) {
                Workshop.cutMany(x, skin, kind, 1);
                Check.same("one of each skin to " + skin, 9 - skin, x.lacks(0, kind));
            }
        }
    }

    static void promise15OfThisColourAlone() {
        GloveCutters x = new GloveCutters();
        x.lay(1);
        x.lay(2);
        Workshop.cutPair(x, 1);
        lacks(x, "its own", 2, 0, 0, 0, 0);
        lacks(x, "of another colour", 1, 2, 2, 6, 4);
        lacks(x, "of a colour without a skin", 0, 2, 2, 6, 4);
    }

    static void promise15SewnAndLostOnesAreNotFree() {
        GloveCutters x = Workshop.laid(1, 0);
        Workshop.cutPair(x, 0);
        lacks(x, "all free", 0, 0, 0, 0, 0);
        x.sew(0);
        lacks(x, "all sewn", 0, 2, 2, 6, 4);
        x.rip(0);
        lacks(x, "fourchettes lost", 0, 0, 0, 6, 0);
    }

    // ---- promise 16: pairs

    static void promise16ColourNot0To5() {
        GloveCutters x = new GloveCutters();
        Check.refusedOutside(x, "pairs without skins", 0, 5, Check.ARGUMENT, x::pairs);
        for (int colour = 0; colour <= 5; colour++) {
            Check.same("pairs(" + colour + ") without skins", 0, x.pairs(colour));
            x.lay(colour);
        }
        Check.refusedOutside(x, "pairs", 0, 5, Check.ARGUMENT, x::pairs);
        Workshop.cutPair(x, 5);
        for (int colour = 0; colour <= 5; colour++) {
            Check.same("pairs(" + colour + ")", colour == 5 ? 1 : 0, x.pairs(colour));
        }
    }

    static void promise16OneTooFewOfEachKind() {
        for (int kind = 0; kind <= 3; kind++) {
            GloveCutters x = Workshop.laid(2, 5);
            for (int other = 0; other <= 3; other++) {
                Workshop.cutMany(x, 0, other, Workshop.NEEDED[other] - (other == kind ? 1 : 0));
            }
            Check.same("one of kind " + kind + " too few for one", 0, x.pairs(5));
            Workshop.cutMany(x, 0, kind, 1);
            Check.same("one", 1, x.pairs(5));
            for (int other = 0; other <= 3; other++) {
                Workshop.cutMany(x, 1, other, Workshop.NEEDED[other] - (other == kind ? 1 : 0));
            }
            Check.same("one of kind " + kind + " too few for two", 1, x.pairs(5));
            Workshop.cutMany(x, 1, kind, 1);
            Check.same("two", 2, x.pairs(5));
        }
    }

    static void promise16TranksThatAreSingleOnTheirSkins() {
        GloveCutters x = Workshop.laid(5, 0);
        for (int kind = 1; kind <= 3; kind++) {
            Workshop.cutMany(x, 4, kind, 3 * Workshop.NEEDED[kind]);
        }
        for (int skin = 0; skin <= 2; skin++) {
            Workshop.cutMany(x, skin, 0, 1);
        }
        Check.same("three single ones", 0, x.pairs(0));
        Workshop.cutMany(x, 0, 0, 2);
        Workshop.cutMany(x, 1, 0, 2);
        Check.same("three, three and one", 2, x.pairs(0));
        Workshop.cutMany(x, 2, 0, 1);
        Check.same("three, three and two", 3, x.pairs(0));
    }

    static void promise16PiecesOfOtherColoursDoNotCount() {
        for (int kind = 0; kind <= 3; kind++) {
            GloveCutters x = Workshop.ofAnotherColour(kind);
            Check.same("kind " + kind + " of colour 3: pairs(4)", 0, x.pairs(4));
            Check.same("kind " + kind + " of colour 3: pairs(3)", 0, x.pairs(3));
            Workshop.cutMany(x, 0, kind, Workshop.NEEDED[kind]);
            Check.same("all of colour 4: pairs(4)", 1, x.pairs(4));
        }
    }

    static void promise16OneAfterTheOther() {
        GloveCutters x = Workshop.laid(3, 0);
        for (int skin = 0; skin < 3; skin++) {
            Workshop.cutPair(x, skin);
        }
        for (int left = 3; left > 0; left--) {
            Check.same("pairs", left, x.pairs(0));
            Check.same("sew", 3 - left, x.sew(0));
        }
        Check.same("pairs when all are sewn", 0, x.pairs(0));
        Check.refused(x, "sew when pairs() is 0", Check.STATE, () -> x.sew(0));
        x.rip(1);
        Check.same("pairs without fourchettes", 0, x.pairs(0));
        Workshop.cutMany(x, 0, 2, 6);
        Check.same("pairs with new ones", 1, x.pairs(0));
    }

    static void promise16HoweverManyWereSewn() {
        GloveCutters x = Workshop.with20Pairs();
        Check.same("nothing is free", 0, x.pairs(0));
        for (int skin = 6; skin <= 7; skin++) {
            x.lay(0);
        }
        Workshop.cutPair(x, 6);
        Check.same("one at 20", 1, x.pairs(0));
        Workshop.cutMany(x, 7, 2, 6);
        x.rip(19);
        Check.same("two at 20", 2, x.pairs(0));
    }

    static void promise16AsManyAs150PiecesMake() {
        GloveCutters x = Workshop.laid(10, 0);
        for (int skin = 0; skin < 10; skin++) {
            Workshop.cutPair(x, skin);
        }
        Workshop.cutMany(x, 9, 3, 10);
        Check.same("pieces", 150, x.count(1));
        Check.same("ten", 10, x.pairs(0));
    }

    static void promise16NothingIsChanged() {
        GloveCutters x = Workshop.laid(1, 0);
        Workshop.cutPair(x, 0);
        long before = x.digest();
        Check.same("pairs", 1, x.pairs(0));
        Check.same("digest after pairs", before, x.digest());
        Check.same("pairs again", 1, x.pairs(0));
        Check.same("sew after pairs", 0, x.sew(0));
    }

    // ---- promise 17: share

    static void promise17ThereAreNoCells() {
        GloveCutters x = new GloveCutters();
        Check.sameDouble("without skins", 0.0, x.share());
        x.lay(0);
        x.mark(0, 0, 0, 12, 8, 2);
        Check.sameDouble("holes alone", 0.0, x.share());
        x.lay(0);
        x.mark(1, 0, 0, 12, 8, 2);
        Check.sameDouble("holes alone on two skins", 0.0, x.share());
    }

    static void promise17NothingIsCut() {
        Check.sameDouble("nothing cut", 0.0, Workshop.laid(10, 0).share());
    }

    static void promise17AllIsCut() {
        GloveCutters x = Workshop.laid(2, 0);
        Workshop.cutQuirks(x, 0, 96);
        x.mark(1, 0, 0, 12, 8, 2);
        Check.sameDouble("all but holes is cut", 1.0, x.share());
        x.mark(1, 4, 4, 1, 1, 1);
        Check.sameDouble("all but a thin cell", 96.0 / 97.0, x.share());
        x.cut(1, 3, false, 4, 4);
        Check.sameDouble("the thin cell too", 1.0, x.share());
    }

    static void promise17ThinCellsCountAndHolesDoNot() {
        GloveCutters x = Workshop.laid(1, 0);
        x.mark(0, 0, 0, 12, 1, 1);
        x.mark(0, 0, 7, 5, 1, 2);
        x.cut(0, 3, false, 0, 0);
        Check.sameDouble("one cut, five holes", 1.0 / 91.0, x.share());
    }

    static void promise17OfAllSkinsTogether() {
        GloveCutters x = Workshop.laid(10, 0);
        x.cut(0, 0, false, 0, 0);
        x.cut(9, 1, false, 0, 0);
        x.mark(5, 0, 0, 12, 8, 2);
        Check.sameDouble("16 of 9 skins", 16.0 / 864.0, x.share());
    }

    static void promise17SewnAndLostPiecesAreCutStill() {
        GloveCutters x = Workshop.laid(1, 0);
        Workshop.cutPair(x, 0);
        x.sew(0);
        Check.sameDouble("sewn", 54.0 / 96.0, x.share());
        x.rip(0);
        Check.sameDouble("ripped up", 54.0 / 96.0, x.share());
    }

    // ---- promise 18: digest

    private static long folded(List<Integer> told) {
        return unwrapped(told).longValue();
    }

    /** The checksum as it would be without an end to its digits. */
    private static BigInteger unwrapped(List<Integer> told) {
        BigInteger d = BigInteger.valueOf(1087);
        for (int x : told) {
            d = d.multiply(BigInteger.valueOf(31)).add(BigInteger.valueOf(x));
        }
        return d;
    }

    /** What the other calls tell; each part is asked of an object made anew, so that none is asked too often. */
    private static List<Integer> told(Made made) {
        List<Integer> told = new ArrayList<>();
        GloveCutters first = made.anew();
        for (int what = 0; what <= 6; what++) {
            told.add(first.count(what));
        }
        for (int skin = 0; skin < first.count(0); skin++) {
            GloveCutters x = made.anew();
            for (int what = 0; what <= 5; what++) {
                told.add(x.skin(skin, what));
            }
            for (int at = 0; at < 96; at++) {
                told.add(x.cell(skin, at % 12, at / 12));
            }
        }
        for (int piece = 0; piece < first.count(1); piece++) {
            GloveCutters x = made.anew();
            for (int what = 0; what <= 3; what++) {
                told.add(x.piece(piece, what));
            }
        }
        for (int pair = 0; pair < first.count(5); pair++) {
            GloveCutters x = made.anew();
            for (int what = 0; what <= 4; what++) {
                told.add(x.pair(pair, what));
            }
        }
        return told;
    }

    private static void digests(String of, Made made) {
        GloveCutters x = made.anew();
        long due = folded(told(made));
        Check.same("digest of " + of, due, x.digest());
        Check.same("digest of " + of + ", again", due, x.digest());
    }

    static void promise18OfANewObject() {
        // 1087 * 31 to the seventh, since seven counts are 0
        Check.same("digest of a new object", 1087L * 27512614111L, new GloveCutters().digest());
    }

    static void promise18WrapsAround() {
        GloveCutters x = Workshop.laid(1, 0);
        List<Integer> told = told(() -> Workshop.laid(1, 0));
        Check.same("it goes beyond 64 bits", 1, unwrapped(told).bitLength() > 64 ? 1 : 0);
        Check.same("digest of one skin", folded(told), x.digest());
    }

    static void promise18OfSkins() {
        digests("ten skins", () -> {
            GloveCutters x = new GloveCutters();
            for (int skin = 0; skin < 10; skin++) {
                x.lay(skin * 7 % 6);
                x.mark(skin, skin, skin % 7, 2, 2, 1);
                x.mark(skin, 11 - skin, 7 - skin % 7, 1, 1, 2);
                x.cut(skin, 3, false, skin, 7 * (skin % 2));
            }
            return x;
        });
    }

    /** A workshop of two skins with pieces of each kind, some with thin cells, enough for a pair. */
    private static GloveCutters twoSkins() {
        GloveCutters x = Workshop.laid(2, 2);
        x.mark(1, 0, 0, 3, 1, 1);
        x.mark(0, 11, 0, 1, 8, 2);
        Workshop.cutMany(x, 0, 0, 2);
        Workshop.cutMany(x, 1, 1, 2);
        Workshop.cutMany(x, 1, 2, 6);
        Workshop.cutMany(x, 0, 3, 4);
        return x;
    }

    static void promise18OfFreePieces() {
        digests("free pieces", WouldBeTest::twoSkins);
        digests("150 pieces", Workshop::with150Pieces);
    }

    static void promise18OfSewnAndLostPiecesAndPairs() {
        digests("a pair", () -> {
            GloveCutters x = twoSkins();
            x.sew(2);
            return x;
        });
        digests("a pair, and one that is ripped up", () -> {
            GloveCutters x = twoSkins();
            x.sew(2);
            x.rip(0);
            Workshop.cutMany(x, 0, 2, 6);
            x.sew(2);
            return x;
        });
    }

    static void promise18AtTheLimits() {
        digests("10 skins, 150 pieces, 20 pairs", () -> {
            GloveCutters x = Workshop.with20Pairs();
            for (int skin = 6; skin < 10; skin++) {
                x.lay(skin - 5);
            }
            Workshop.cutQuirks(x, 9, 22);
            return x;
        });
    }

    static void promise18NothingIsChanged() {
        GloveCutters x = twoSkins();
        long before = x.digest();
        x.place(1, 0, true);
        x.best(1, true);
        x.lacks(2, 0);
        x.pairs(2);
        x.share();
        x.cell(0, 0, 0);
        x.skin(0, 0);
        x.piece(0, 0);
        x.count(0);
        Check.same("digest after calls that only tell", before, x.digest());
        Check.same("sew after digest", 0, x.sew(2));
    }
}
