import java.util.Random;

/** Promises 1 to 18: long runs of calls, each answer beside that of the plain model. */
public final class ModelTest {
    private static final int RUNS = 600;
    private static final int CALLS = 512;

    private interface Call {
        long answer();
    }

    private final GloveCutters x = new GloveCutters();
    private final PlainModel model = new PlainModel();
    private final Random random;
    private final int run;
    private final boolean thrifty;
    private final int coloursUsed;
    private final int wrongInHundred;
    private int calls = 0;

    private ModelTest(int run) {
        this.run = run;
        this.random = new Random(7919L * run + 3);
        this.thrifty = run % 5 == 4;
        this.coloursUsed = thrifty ? 1 : 1 + run % 3;
        this.wrongInHundred = run % 4 == 0 ? 10 : 1;
    }

    public static void main(String[] args) {
        long mostPieces = 0;
        long mostPairs = 0;
        long mostLost = 0;
        for (int run = 0; run < RUNS; run++) {
            ModelTest test = new ModelTest(run);
            test.play();
            mostPieces = Math.max(mostPieces, test.model.count(1));
            mostPairs = Math.max(mostPairs, test.model.count(5));
            mostLost = Math.max(mostLost, test.model.count(4));
        }
        // the runs must come as far as the limits, or they say little of them
        Check.same("the runs come to 150 pieces", 150, mostPieces);
        Check.same("the runs come to 20 pairs", 20, mostPairs);
        Check.same("the runs lose many fourchettes", 1, mostLost >= 60 ? 1 : 0);
        Check.end();
    }

    private void play() {
        int skins = thrifty ? 10 : 2 + random.nextInt(9);
        for (int i = 0; i < skins; i++) {
            lay(random.nextInt(coloursUsed));
        }
        while (calls < CALLS - 2) {
            step();
        }
        same("digest()", model.digest(), x.digest());
    }

    private void step() {
        int chance = random.nextInt(100);
        if (thrifty && random.nextInt(10) < 8) {
            makeAPair();
        } else if (chance < 50 - run % 3 * 10) {
            cutAtAFirstPlace();
        } else if (chance < 57) {
            sew(number(0, coloursUsed));
        } else if (chance < 60) {
            rip();
        } else if (chance < 66) {
            mark();
        } else if (chance < 72) {
            cutAnywhere();
        } else if (chance < 84) {
            wouldBe();
        } else if (chance < 98) {
            told();
        } else {
            lay(number(0, 6));
        }
        if (calls % 8 == 0) {
            same("digest()", model.digest(), x.digest());
        }
    }

    /** Mostly a number from..to-1, now and then one beside it or far off. */
    private int number(int from, int to) {
        if (random.nextInt(100) < wrongInHundred) {
            int[] wrong = {from - 1, to, to + 1, Integer.MIN_VALUE, Integer.MAX_VALUE, -100};
            return wrong[random.nextInt(wrong.length)];
        }
        return from + random.nextInt(Math.max(1, to - from));
    }

    private int someSkin() {
        return number(0, (int) model.count(0));
    }

    private void lay(int colour) {
        both("lay(" + colour + ")", () -> model.lay(colour), () -> x.lay(colour));
    }

    /** Of the kind that the colour of the skin lacks, so that pairs come about. */
    private void cutAtAFirstPlace() {
        int skin = random.nextInt((int) model.count(0));
        int colour = (int) model.skin(skin, 0);
        int wanted = random.nextInt(4);
        for (int tried = 0; tried < 4 && model.lacks(colour, wanted) == 0; tried++) {
            wanted = (wanted + 1) % 4;
        }
        int kind = wanted;
        boolean turned = random.nextInt(3) == 0;
        int at = (int) model.place(skin, kind, turned);
        if (random.nextInt(4) == 0) {
            both("place(" + skin + ", " + kind + ", " + turned + ")", () -> at, () -> x.place(skin, kind, turned));
        }
        if (at >= 0) {
            cut(skin, kind, turned, at % 12, at / 12);
        }
    }

    /** Cuts what is lacking alone, and rips most pairs at once, so that 20 are sewn of 150 pieces. */
    private void makeAPair() {
        for (int kind = 0; kind < 4; kind++) {
            if (model.lacks(0, kind) > 0) {
                cutAtAFirstPlace();
                return;
            }
        }
        sew(0);
        if (random.nextInt(10) > 0) {
            int last = (int) model.count(5) - 1;
            both("rip(" + last + ")", () -> model.rip(last), () -> x.rip(last));
        }
    }

    private void cutAnywhere() {
        cut(someSkin(), number(0, 4), random.nextBoolean(), number(0, 12), number(0, 8));
    }

    private void cut(int skin, int kind, boolean turned, int cx, int cy) {
        both("cut(" + skin + ", " + kind + ", " + turned + ", " + cx + ", " + cy + ")",
                () -> model.cut(skin, kind, turned, cx, cy), () -> x.cut(skin, kind, turned, cx, cy));
    }

    private void sew(int colour) {
        both("sew(" + colour + ")", () -> model.sew(colour), () -> x.sew(colour));
    }

    private void rip() {
        int sewn = (int) model.count(5);
        int pair = random.nextInt(3) == 0 ? number(0, sewn) : sewn - 1;
        both("rip(" + pair + ")", () -> model.rip(pair), () -> x.rip(pair));
    }

    private void mark() {
        int skin = someSkin();
        int cx = number(0, 12);
        int cy = number(0, 8);
        int wide = number(1, 1 + Math.min(4, Math.max(1, 12 - Math.floorMod(cx, 12))));
        int high = number(1, 1 + Math.min(4, Math.max(1, 8 - Math.floorMod(cy, 8))));
        int how = number(0, 3);
        both("mark(" + skin + ", " + cx + ", " + cy + ", " + wide + ", " + high + ", " + how + ")",
                () -> model.mark(skin, cx, cy, wide, high, how), () -> x.mark(skin, cx, cy, wide, high, how));
    }

    private void wouldBe() {
        int skin = someSkin();
        int kind = number(0, 4);
        int colour = number(0, coloursUsed);
        boolean turned = random.nextBoolean();
        switch (random.nextInt(6)) {
            case 0:
                both("gives(" + skin + ", " + kind + ", " + turned + ")",
                        () -> model.gives(skin, kind, turned), () -> x.gives(skin, kind, turned));
                break;
            case 1:
                both("best(" + kind + ", " + turned + ")", () -> model.best(kind, turned), () -> x.best(kind, turned));
                break;
            case 2:
                both("place(" + skin + ", " + kind + ", " + turned + ")",
                        () -> model.place(skin, kind, turned), () -> x.place(skin, kind, turned));
                break;
            case 3:
                both("lacks(" + colour + ", " + kind + ")", () -> model.lacks(colour, kind), () -> x.lacks(colour, kind));
                break;
            case 4:
                both("pairs(" + colour + ")", () -> model.pairs(colour), () -> x.pairs(colour));
                break;
            default:
                calls++;
                Check.sameDouble("run " + run + ": share()", model.share(), x.share());
                break;
        }
    }

    private void told() {
        int skin = someSkin();
        int piece = number(0, (int) model.count(1));
        int pair = number(0, (int) model.count(5));
        int cx = number(0, 12);
        int cy = number(0, 8);
        int what = number(0, 7);
        switch (random.nextInt(5)) {
            case 0:
                both("cell(" + skin + ", " + cx + ", " + cy + ")", () -> model.cell(skin, cx, cy), () -> x.cell(skin, cx, cy));
                break;
            case 1:
                both("skin(" + skin + ", " + what + ")", () -> model.skin(skin, what), () -> x.skin(skin, what));
                break;
            case 2:
                both("piece(" + piece + ", " + what + ")", () -> model.piece(piece, what), () -> x.piece(piece, what));
                break;
            case 3:
                both("pair(" + pair + ", " + what + ")", () -> model.pair(pair, what), () -> x.pair(pair, what));
                break;
            default:
                both("count(" + what + ")", () -> model.count(what), () -> x.count(what));
                break;
        }
    }

    private void both(String call, Call plain, Call real) {
        same(call, plain.answer(), answerOrException(real));
    }

    private void same(String call, long due, long got) {
        calls++;
        Check.same("run " + run + ", call " + calls + ": " + call, due, got);
    }

    private static long answerOrException(Call call) {
        try {
            return call.answer();
        } catch (RuntimeException e) {
            Class<?> type = e.getClass();
            return type == IndexOutOfBoundsException.class ? PlainModel.INDEX
                    : type == IllegalArgumentException.class ? PlainModel.ARGUMENT
                    : type == IllegalStateException.class ? PlainModel.STATE
                    : PlainModel.REFUSED;
        }
    }
}
