import java.util.ArrayList;
import java.util.List;
import java.util.Set;
import java.util.TreeSet;

/**
 * The document told a second time, as slowly and plainly as can be: what would be
 * is found by doing it to a copy. Its calls have the same names, and an answer of
 * REFUSED plus 1, 2 or 3 stands for an exception.
 */
final class PlainModel {
    static final long REFUSED = 1L << 40;
    static final long INDEX = REFUSED + 1;
    static final long ARGUMENT = REFUSED + 2;
    static final long STATE = REFUSED + 3;

    private static final int[][] SIZE = {{4, 3}, {2, 2}, {1, 3}, {1, 1}};
    private static final int[] NEEDED = {2, 2, 6, 4};

    private static final class Skin {
        int colour;
        int number;
        boolean[][] thin = new boolean[12][8];
        boolean[][] hole = new boolean[12][8];
        boolean[][] cut = new boolean[12][8];
    }

    private static final class Piece {
        Skin skin;
        int kind;
        int thin;
        int pair = -1;
    }

    private static final class Pair {
        int colour;
        List<Piece> made = new ArrayList<>();
        boolean ripped;
    }

    private final List<Skin> skins = new ArrayList<>();
    private final List<Piece> pieces = new ArrayList<>();
    private final List<Pair> pairs = new ArrayList<>();
    private boolean endless = false;

    private static boolean in(int number, int from, int to) {
        return from <= number && number <= to;
    }

    private boolean noSkin(int skin) {
        return !in(skin, 0, skins.size() - 1);
    }

    private boolean noCell(int skin, int x, int y) {
        return noSkin(skin) || !in(x, 0, 11) || !in(y, 0, 7);
    }

    private PlainModel copyWithoutLimits() {
        PlainModel copy = new PlainModel();
        copy.endless = true;
        for (Skin skin : skins) {
            Skin other = new Skin();
            other.colour = skin.colour;
            other.number = skin.number;
            for (int x = 0; x < 12; x++) {
                other.thin[x] = skin.thin[x].clone();
                other.hole[x] = skin.hole[x].clone();
                other.cut[x] = skin.cut[x].clone();
            }
            copy.skins.add(other);
        }
        for (Piece piece : pieces) {
            Piece other = new Piece();
            other.skin = copy.skins.get(piece.skin.number);
            other.kind = piece.kind;
            other.thin = piece.thin;
            other.pair = piece.pair;
            copy.pieces.add(other);
        }
        for (int i = 0; i < pairs.size(); i++) {
            copy.pairs.add(new Pair());
        }
        return copy;
    }

    long lay(int colour) {
        if (!in(colour, 0, 5)) {
            return ARGUMENT;
        }
        if (skins.size() == 10) {
            return STATE;
        }
        Skin skin = new Skin();
        skin.colour = colour;
        skin.number = skins.size();
        skins.add(skin);
        return skin.number;
    }

    long mark(int skin, int x, int y, int wide, int high, int how) {
        if (noCell(skin, x, y)) {
            return INDEX;
        }
        if (!in(wide, 1, 12 - x) || !in(high, 1, 8 - y) || !in(how, 0, 2)) {
            return ARGUMENT;
        }
        long otherwise = 0;
        for (int cx = x; cx < x + wide; cx++) {
            for (int cy = y; cy < y + high; cy++) {
                if (cell(skin, cx, cy) == 3) {
                    return STATE;
                }
                otherwise += cell(skin, cx, cy) == how ? 0 : 1;
            }
        }
        for (int cx = x; cx < x + wide; cx++) {
            for (int cy = y; cy < y + high; cy++) {
                skins.get(skin).thin[cx][cy] = how == 1;
                skins.get(skin).hole[cx][cy] = how == 2;
            }
        }
        return otherwise;
    }

    long cell(int skin, int x, int y) {
        if (noCell(skin, x, y)) {
            return INDEX;
        }
        Skin s = skins.get(skin);
        return s.cut[x][y] ? 3 : s.hole[x][y] ? 2 : s.thin[x][y] ? 1 : 0;
    }

    private long cellsOf(int skin, int how) {
        long found = 0;
        for (int at = 0; at < 96; at++) {
            found += cell(skin, at % 12, at / 12) == how ? 1 : 0;
        }
        return found;
    }

    long skin(int skin, int what) {
        if (noSkin(skin) || !in(what, 0, 5)) {
            return INDEX;
        }
        if (what == 0) {
            return skins.get(skin).colour;
        }
        if (what <= 4) {
            return cellsOf(skin, what - 1);
        }
        long found = 0;
        for (Piece piece : pieces) {
            found += piece.skin == skins.get(skin) ? 1 : 0;
        }
        return found;
    }

    /** How many thin cells a piece there would have, -1 if it cannot be cut there. */
    private int thinAt(Skin skin, int kind, boolean turned, int x, int y) {
        int wide = SIZE[kind][turned ? 1 : 0];
        int high = SIZE[kind][turned ? 0 : 1];
        int thin = 0;
        for (int cx = x; cx < x + wide; cx++) {
            for (int cy = y; cy < y + high; cy++) {
                if (cx > 11 || cy > 7 || skin.hole[cx][cy] || skin.cut[cx][cy]) {
                    return -1;
                }
                thin += skin.thin[cx][cy] ? 1 : 0;
            }
        }
        boolean tooThin = kind == 0 ? thin > 0 : kind != 3 && thin > 1;
        return tooThin ? -1 : thin;
    }

    long cut(int skin, int kind, boolean turned, int x, int y) {
        if (noCell(skin, x, y)) {
            return INDEX;
        }
        if (!in(kind, 0, 3)) {
            return ARGUMENT;
        }
        Piece piece = new Piece();
        piece.skin = skins.get(skin);
        piece.kind = kind;
        piece.thin = thinAt(piece.skin, kind, turned, x, y);
        if (piece.thin < 0 || pieces.size() >= 150 && !endless) {
            return STATE;
        }
        for (int cx = x; cx < x + SIZE[kind][turned ? 1 : 0]; cx++) {
            for (int cy = y; cy < y + SIZE[kind][turned ? 0 : 1]; cy++) {
                piece.skin.cut[cx][cy] = true;
            }
        }
        pieces.add(piece);
        return pieces.size() - 1;
    }

    long place(int skin, int kind, boolean turned) {
        if (noSkin(skin)) {
            return INDEX;
        }
        if (!in(kind, 0, 3)) {
            return ARGUMENT;
        }
        for (int y = 0; y < 8; y++) {
            for (int x = 0; x < 12; x++) {
                if (thinAt(skins.get(skin), kind, turned, x, y) >= 0) {
                    return 12 * y + x;
                }
            }
        }
        return -1;
    }

    long piece(int piece, int what) {
        if (!in(piece, 0, pieces.size() - 1) || !in(what, 0, 3)) {
            return INDEX;
        }
        Piece p = pieces.get(piece);
        return new long[] {p.skin.number, p.kind, p.pair, p.thin}[what];
    }

    private List<Piece> free(int colour, int kind, int skin) {
        List<Piece> found = new ArrayList<>();
        for (Piece piece : pieces) {
            boolean here = skin < 0 || piece.skin.number == skin;
            if (piece.pair == -1 && piece.kind == kind && piece.skin.colour == colour && here) {
                found.add(piece);
            }
        }
        return found;
    }

    long sew(int colour) {
        if (!in(colour, 0, 5)) {
            return ARGUMENT;
        }
        List<Piece> chosen = new ArrayList<>();
        for (int skin = 0; skin < skins.size() && chosen.isEmpty(); skin++) {
            List<Piece> tranks = free(colour, 0, skin);
            if (tranks.size() >= 2) {
                chosen.addAll(tranks.subList(0, 2));
            }
        }
        for (int kind = 1; kind <= 3; kind++) {
            List<Piece> others = free(colour, kind, -1);
            chosen.addAll(others.subList(0, Math.min(NEEDED[kind], others.size())));
        }
        if (chosen.size() < 14 || pairs.size() >= 20 && !endless) {
            return STATE;
        }
        Pair pair = new Pair();
        pair.colour = colour;
        pair.made.addAll(chosen);
        for (Piece piece : chosen) {
            piece.pair = pairs.size();
        }
        pairs.add(pair);
        return pairs.size() - 1;
    }

    long rip(int pair) {
        if (!in(pair, 0, pairs.size() - 1)) {
            return INDEX;
        }
        if (pairs.get(pair).ripped) {
            return STATE;
        }
        pairs.get(pair).ripped = true;
        long freed = 0;
        for (Piece piece : pairs.get(pair).made) {
            piece.pair = piece.kind == 2 ? -2 : -1;
            freed += piece.kind == 2 ? 0 : 1;
        }
        return freed;
    }

    long pair(int pair, int what) {
        if (!in(pair, 0, pairs.size() - 1) || !in(what, 0, 4)) {
            return INDEX;
        }
        Pair p = pairs.get(pair);
        Set<Integer> from = new TreeSet<>();
        long thin = 0;
        for (Piece piece : p.made) {
            from.add(piece.skin.number);
            thin += piece.thin;
        }
        return new long[] {p.colour, p.made.get(0).skin.number, from.size(), thin, p.ripped ? 1 : 0}[what];
    }

    long count(int what) {
        if (!in(what, 0, 6)) {
            return INDEX;
        }
        long[] counts = {skins.size(), pieces.size(), 0, 0, 0, pairs.size(), 0};
        for (Piece piece : pieces) {
            counts[piece.pair == -1 ? 2 : piece.pair == -2 ? 4 : 3]++;
        }
        for (Pair pair : pairs) {
            counts[6] += pair.ripped ? 0 : 1;
        }
        return counts[what];
    }

    long gives(int skin, int kind, boolean turned) {
        long first = place(skin, kind, turned);
        if (first >= REFUSED) {
            return first;
        }
        PlainModel copy = copyWithoutLimits();
        long given = 0;
        for (long at = first; at >= 0; at = copy.place(skin, kind, turned)) {
            copy.cut(skin, kind, turned, (int) at % 12, (int) at / 12);
            given++;
        }
        return given;
    }

    long best(int kind, boolean turned) {
        if (!in(kind, 0, 3)) {
            return ARGUMENT;
        }
        long most = 0;
        for (int skin = 0; skin < skins.size(); skin++) {
            most = Math.max(most, gives(skin, kind, turned));
        }
        for (int skin = 0; skin < skins.size() && most > 0; skin++) {
            if (gives(skin, kind, turned) == most) {
                return skin;
            }
        }
        return -1;
    }

    long lacks(int colour, int kind) {
        if (!in(colour, 0, 5) || !in(kind, 0, 3)) {
            return ARGUMENT;
        }
        long least = NEEDED[kind];
        if (kind != 0) {
            return Math.max(0, least - free(colour, kind, -1).size());
        }
        for (int skin = 0; skin < skins.size(); skin++) {
            least = Math.min(least, Math.max(0, 2 - free(colour, 0, skin).size()));
        }
        return least;
    }

    long pairs(int colour) {
        if (!in(colour, 0, 5)) {
            return ARGUMENT;
        }
        PlainModel copy = copyWithoutLimits();
        long sewn = 0;
        while (copy.sew(colour) < REFUSED) {
            sewn++;
        }
        return sewn;
    }

    double share() {
        double cut = 0;
        double solid = 0;
        for (int skin = 0; skin < skins.size(); skin++) {
            cut += cellsOf(skin, 3);
            solid += 96 - cellsOf(skin, 2);
        }
        return solid == 0 ? 0 : cut / solid;
    }

    long digest() {
        List<Long> told = new ArrayList<>();
        for (int what = 0; what <= 6; what++) {
            told.add(count(what));
        }
        for (int skin = 0; skin < skins.size(); skin++) {
            for (int what = 0; what <= 5; what++) {
                told.add(skin(skin, what));
            }
            for (int at = 0; at < 96; at++) {
                told.add(cell(skin, at % 12, at / 12));
            }
        }
        for (int piece = 0; piece < pieces.size(); piece++) {
            for (int what = 0; what <= 3; what++) {
                told.add(piece(piece, what));
            }
        }
        for (int pair = 0; pair < pairs.size(); pair++) {
            for (int what = 0; what <= 4; what++) {
                told.add(pair(pair, what));
            }
        }
        long d = 1087;
        for (long x : told) {
            d = d * 31 + x;
        }
        return d;
    }
}
