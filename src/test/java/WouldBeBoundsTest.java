import java.math.BigInteger;

/** Promises 15 to 18 at their bounds: each sentence that names a boundary case has a test of its own here. */
public final class WouldBeBoundsTest {
    private static final Class<?> ARGUMENT = Squares.ARGUMENT;
    private static final Class<?> INDEX = Squares.INDEX;
    private static final int MIN = Squares.MIN;
    private static final int MAX = Squares.MAX;
    private static final int LEFT = Squares.LEFT;
    private static final int UP = Squares.UP;

    public static void main(String[] args) {
        bestWideAndHighAre1To24();
        bestWhatIs0To2();
        bestFirstNamedExceptionFirst();
        bestSmallestRowThenColumn();
        bestLastPlace();
        bestOfACoveredSquare();
        bestPastThoseThatAreIn();
        bestWithTenAwnings();
        adviseNoneIsOut();
        adviseTheFewestCells();
        adviseOfSeveralTheSmallestNumber();
        adviseNotOneThatIsIn();
        meanWithoutAny();
        meanIsNotCut();
        meanOfEight();
        digestOfANewObject();
        digestOfAFullSquare();
        digestInItsOrder();
        digestWrapsAround();
        askingChangesNothing();
        Check.end("WouldBeBoundsTest");
    }

    // "Throws IllegalArgumentException if w or h is not 1 to 24" (best)

    private static void bestWideAndHighAre1To24() {
        MarketAwnings square = new MarketAwnings();
        int[] right = {1, 2, 23, 24};
        for (int w : right) {
            for (int h : right) {
                bestIs(square, w, h, 0, 0, w * h);
            }
        }
        for (int wrong : new int[] {0, 25, -1, -24, MIN, MAX, MIN + 1, MAX - 1}) {
            Check.refuses(square, "best: w " + wrong, ARGUMENT, () -> square.best(wrong, 1, 0));
            Check.refuses(square, "best: h " + wrong, ARGUMENT, () -> square.best(1, wrong, 0));
            Check.refuses(square, "best: both " + wrong, ARGUMENT, () -> square.best(wrong, wrong, 0));
        }
    }

    // "Throws IndexOutOfBoundsException if what is not 0 to 2"

    private static void bestWhatIs0To2() {
        MarketAwnings square = new MarketAwnings();
        square.hang(0, 0, 24, 5, 1, UP);
        square.hang(0, 0, 7, 24, 1, UP);
        bestIs(square, 3, 4, 7, 5, 12);
        for (int wrong : new int[] {-1, 3, -2, 4, MIN, MAX}) {
            Check.refuses(square, "best: what " + wrong, INDEX, () -> square.best(3, 4, wrong));
            Check.refuses(square, "best: what " + wrong + ", all over", INDEX, () -> square.best(24, 24, wrong));
        }
    }

    // "If several exceptions apply, the one that is named first is thrown."

    private static void bestFirstNamedExceptionFirst() {
        MarketAwnings square = Squares.of(4, 0);
        for (int what : new int[] {-1, 3, MIN, MAX}) {
            for (int wrong : new int[] {0, 25, MIN, MAX}) {
                Check.refuses(square, "best: w before what", ARGUMENT, () -> square.best(wrong, 24, what));
                Check.refuses(square, "best: h before what", ARGUMENT, () -> square.best(24, wrong, what));
            }
        }
    }

    // "of several the one with the smallest row, then the smallest column"

    private static void bestSmallestRowThenColumn() {
        MarketAwnings square = new MarketAwnings();
        square.hang(0, 0, 23, 1, 1, UP);
        bestIs(square, 1, 1, 23, 0, 1);
        bestIs(square, 2, 1, 0, 1, 2);
        square.hang(23, 0, 1, 1, 1, UP);
        bestIs(square, 1, 1, 0, 1, 1);
        square.hang(0, 1, 1, 1, 1, UP);
        bestIs(square, 1, 1, 1, 1, 1);
        bestIs(square, 24, 1, 0, 2, 24);
        bestIs(square, 24, 2, 0, 2, 48);
        bestIs(square, 1, 23, 1, 1, 23);
        MarketAwnings most = new MarketAwnings();
        most.hang(0, 0, 24, 22, 1, UP);
        most.hang(0, 22, 20, 2, 1, UP);
        bestIs(most, 2, 1, 20, 22, 2);
        bestIs(most, 3, 3, 20, 21, 6);
        bestIs(most, 5, 1, 19, 22, 4);
        bestIs(most, 6, 4, 18, 20, 8);
    }

    private static void bestLastPlace() {
        MarketAwnings square = new MarketAwnings();
        square.hang(0, 0, 24, 23, 1, UP);
        square.hang(0, 23, 23, 1, 1, UP);
        bestIs(square, 1, 1, 23, 23, 1);
        bestIs(square, 2, 2, 22, 22, 1);
        bestIs(square, 23, 23, 1, 1, 1);
        bestIs(square, 24, 24, 0, 0, 1);
        bestIs(square, 24, 1, 0, 23, 1);
        bestIs(square, 1, 24, 23, 0, 1);
    }

    private static void bestOfACoveredSquare() {
        MarketAwnings square = Squares.whole(UP);
        for (int extent : new int[] {1, 2, 12, 23, 24}) {
            bestIs(square, extent, extent, 0, 0, 0);
            bestIs(square, 1, extent, 0, 0, 0);
            bestIs(square, extent, 1, 0, 0, 0);
        }
    }

    // "that are not covered now"

    private static void bestPastThoseThatAreIn() {
        MarketAwnings square = Squares.whole(UP);
        square.hang(0, 0, 24, 4, 1, UP);
        square.roll(0);
        bestIs(square, 24, 24, 0, 0, 480);
        bestIs(square, 5, 5, 0, 4, 25);
        square.roll(1);
        bestIs(square, 24, 24, 0, 0, 576);
        bestIs(square, 5, 5, 0, 0, 25);
    }

    private static void bestWithTenAwnings() {
        MarketAwnings square = Squares.of(10, 0);
        bestIs(square, 24, 24, 0, 0, 566);
        bestIs(square, 24, 3, 0, 3, 72);
        bestIs(square, 1, 24, 1, 0, 24);
        Check.is("best: nothing is hung", square.count(0), 10);
    }

    private static void bestIs(MarketAwnings square, int w, int h, int x, int y, int cells) {
        String name = "best(" + w + ", " + h + ", ";
        Check.is(name + "0)", square.best(w, h, 0), x);
        Check.is(name + "1)", square.best(w, h, 1), y);
        Check.is(name + "2)", square.best(w, h, 2), cells);
    }

    // "-1 if none is out"

    private static void adviseNoneIsOut() {
        MarketAwnings square = new MarketAwnings();
        Check.is("advise: there is none", square.advise(), -1);
        for (int i = 0; i < 10; i++) {
            square.hang(i, i, 1, 1, 1, UP);
            square.roll(i);
            Check.is("advise: all are in, " + (i + 1), square.advise(), -1);
        }
        for (int i = 0; i < 10; i++) {
            square.roll(i);
            Check.is("advise: the only one that is out", square.advise(), i);
            square.roll(i);
        }
    }

    // "could be rolled in so that the fewest cells are not covered any more"

    private static void adviseTheFewestCells() {
        for (int least = 0; least < 10; least++) {
            MarketAwnings square = new MarketAwnings();
            for (int i = 0; i < 10; i++) {
                square.hang(0, 2 * i, i == least ? 23 : 24, 1, 1, UP);
            }
            Check.is("advise: 23 cells, not 24", square.advise(), least);
        }
        MarketAwnings beneath = new MarketAwnings();
        beneath.hang(5, 5, 1, 1, 1, UP);
        beneath.hang(8, 8, 9, 9, 1, UP);
        beneath.hang(8, 8, 9, 9, 1, UP);
        Check.is("advise: a great one that covers none alone", beneath.advise(), 1);
        beneath.roll(1);
        Check.is("advise: now it would uncover 81", beneath.advise(), 0);
        Check.is("advise: one over all cells", Squares.whole(UP).advise(), 0);
    }

    // "of several the smallest number"

    private static void adviseOfSeveralTheSmallestNumber() {
        MarketAwnings square = Squares.of(10, 0);
        for (int i = 0; i < 10; i++) {
            Check.is("advise: of as few the smallest number", square.advise(), i);
            square.roll(i);
        }
        MarketAwnings all = Squares.whole(UP);
        for (int i = 1; i < 10; i++) {
            all.hang(0, 0, 24, 24, 10 - i, UP);
            Check.is("advise: none would uncover a cell", all.advise(), 0);
        }
    }

    // "the awning that is out"

    private static void adviseNotOneThatIsIn() {
        MarketAwnings square = new MarketAwnings();
        square.hang(0, 0, 1, 1, 1, UP);
        square.hang(3, 3, 5, 5, 1, UP);
        square.hang(20, 20, 1, 1, 1, UP);
        square.roll(0);
        square.roll(2);
        Check.is("advise: not one that is in", square.advise(), 1);
        square.roll(2);
        Check.is("advise: the small one is out again", square.advise(), 2);
    }

    // "0 without any"

    private static void meanWithoutAny() {
        MarketAwnings square = Squares.of(10, 0);
        Check.isDouble("mean: no stall", square.mean(), 0.0);
        square.rain(20);
        Check.isDouble("mean: no stall, wet ground", square.mean(), 0.0);
        square.stall(23, 23);
        Check.isDouble("mean: a stall that has got none", square.mean(), 0.0);
    }

    // "Returns the mean of drops that stalls have got"

    private static void meanIsNotCut() {
        MarketAwnings square = new MarketAwnings();
        square.stall(0, 0);
        square.rain(1);
        Check.isDouble("mean: of one", square.mean(), 1.0);
        for (int many = 2; many <= 8; many++) {
            square.stall(many, many);
            Check.isDouble("mean: one drop for " + many, square.mean(), 1.0 / many);
        }
    }

    private static void meanOfEight() {
        MarketAwnings square = new MarketAwnings();
        int sum = 0;
        for (int i = 0; i < 8; i++) {
            square.stall(23, i);
            square.rain(20 - i);
            sum += (20 - i) * (i + 1);
            Check.isDouble("mean: of " + (i + 1), square.mean(), (double) sum / (i + 1));
        }
        square.hang(23, 0, 1, 24, 9, LEFT);
        square.rain(20);
        Check.isDouble("mean: all are covered", square.mean(), sum / 8.0);
    }

    // "A number d starts with 1741; for each of the following numbers x, d becomes d * 31 + x"

    private static void digestOfANewObject() {
        long d = 1741;
        for (int i = 0; i < 11; i++) {
            d = d * 31;
        }
        for (int column = 0; column < 24; column++) {
            d = d * 31 * 31 * 31 * 31;
            for (int y = 0; y < 24; y++) {
                d = (d * 31 * 31 - 1) * 31;
            }
        }
        Check.is("digest: new", new MarketAwnings().digest(), d);
        Check.is("digest: new, by calls", Squares.digestByCalls(() -> new MarketAwnings()), d);
    }

    private static void digestOfAFullSquare() {
        Check.is("digest: ten awnings", Squares.of(10, 0).digest(), Squares.digestByCalls(() -> Squares.of(10, 0)));
        Check.is("digest: eight stalls", Squares.of(0, 8).digest(), Squares.digestByCalls(() -> Squares.of(0, 8)));
        Check.is("digest: full", fullAndWet().digest(), Squares.digestByCalls(() -> fullAndWet()));
        Check.is("digest: all covered", Squares.whole(LEFT).digest(), Squares.digestByCalls(() -> Squares.whole(LEFT)));
    }

    private static MarketAwnings fullAndWet() {
        MarketAwnings square = Squares.of(0, 7);
        square.rain(20);
        for (int i = 0; i < 10; i++) {
            square.hang(2 * i, i, 5, 3 + i, 9 - i % 9, i % 4);
        }
        square.roll(3);
        square.roll(9);
        square.rain(7);
        square.stall(23, 23);
        square.rain(1);
        return square;
    }

    // "(all in their order)"

    private static void digestInItsOrder() {
        Check.is("digest: awnings in their order", inRow(1, 2).digest() == inRow(2, 1).digest(), false);
        Check.is("digest: stalls in their order", stalls(1, 2).digest() == stalls(2, 1).digest(), false);
        Check.is("digest: columns and rows", stallAt(3, 4).digest() == stallAt(4, 3).digest(), false);
        Check.is("digest: the same square again", inRow(1, 2).digest(), inRow(1, 2).digest());
    }

    private static MarketAwnings inRow(int first, int second) {
        MarketAwnings square = new MarketAwnings();
        square.hang(first, 0, 1, 1, 1, UP);
        square.hang(second, 0, 1, 1, 1, UP);
        return square;
    }

    private static MarketAwnings stalls(int first, int second) {
        MarketAwnings square = new MarketAwnings();
        square.stall(first, 0);
        square.stall(second, 0);
        return square;
    }

    private static MarketAwnings stallAt(int x, int y) {
        MarketAwnings square = new MarketAwnings();
        square.stall(x, y);
        return square;
    }

    // "which wraps around as a 64-bit integer"

    private static void digestWrapsAround() {
        BigInteger d = BigInteger.valueOf(1741);
        BigInteger factor = BigInteger.valueOf(31);
        for (int i = 0; i < 11; i++) {
            d = d.multiply(factor);
        }
        for (int i = 0; i < 24 * (4 + 24 * 3); i++) {
            boolean highest = i % 76 >= 4 && (i % 76 - 4) % 3 == 1;
            d = d.multiply(factor).subtract(BigInteger.valueOf(highest ? 1 : 0));
        }
        Check.is("digest: wraps around", new MarketAwnings().digest(), d.longValue());
    }

    // "A method that throws an exception changes nothing", and one that tells something neither

    private static void askingChangesNothing() {
        MarketAwnings square = fullAndWet();
        long before = square.digest();
        double meanBefore = square.mean();
        for (int what = 0; what <= 10; what++) {
            square.count(what);
            square.about(9, Math.min(what, 8));
            square.cell(what, what, what % 3);
            square.cord(what, what % 4);
            square.told(what % 8, what % 4);
            square.share(what % 10, 9);
            square.would(what % 8, 20);
            square.best(what + 1, 24 - what, what % 3);
            square.advise();
            Check.isDouble("asking: mean", square.mean(), meanBefore);
            Check.is("asking: digest", square.digest(), before);
        }
        Check.is("asking: the next hour is that of one not asked", square.rain(3), fullAndWet().rain(3));
    }
}
