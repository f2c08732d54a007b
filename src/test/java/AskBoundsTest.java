/** Promises 8 to 12 at their bounds: each sentence that names a boundary case has a test of its own here. */
public final class AskBoundsTest {
    private static final Class<?> INDEX = Squares.INDEX;
    private static final int MIN = Squares.MIN;
    private static final int MAX = Squares.MAX;
    private static final int UP = Squares.UP;
    private static final int DOWN = Squares.DOWN;

    public static void main(String[] args) {
        aboutKnowsTheFirstAndTheLast();
        aboutWhatIs0To8();
        aboutCellsAlone();
        aboutCellsAloneOfOneThatIsIn();
        aboutDropsInAll();
        cellColumnsAndRows0To23();
        cellThatFoldsOntoAnother();
        cellWhatIs0To2();
        cellLayersFromNoneToTen();
        cellHighestOfTheGreatestLevel();
        cellHighestOfTheSmallestNumber();
        cellHighestNoneAndTheLast();
        cordColumns0To23();
        cordWhatIs0To3();
        cordNothingAndAll();
        cordRunsAtBothEnds();
        cordMostRuns();
        cordLongestFirstAndLast();
        cordMostLayers();
        toldKnowsTheFirstAndTheLast();
        toldWhatIs0To3();
        toldAwningsOverItFromNoneToTen();
        shareKnowsTheFirstAndTheLast();
        shareItself();
        shareTouchingAndOneCell();
        shareWithin();
        shareOneIsIn();
        Check.end("AskBoundsTest");
    }

    // "Throws IndexOutOfBoundsException if there is no such awning, or what is not 0 to 8"

    private static void aboutKnowsTheFirstAndTheLast() {
        for (int many = 0; many <= 10; many++) {
            MarketAwnings square = Squares.of(many, 3);
            for (int wrong : new int[] {-1, many, many + 1, 10, MIN, MAX}) {
                Check.refuses(square, "about: " + wrong + " of " + many, INDEX, () -> square.about(wrong, 0));
                Check.refuses(square, "about: both wrong, of " + many, INDEX, () -> square.about(wrong, 9));
            }
            if (many > 0) {
                Check.is("about: the first of " + many, square.about(0, 0), 0);
                Check.is("about: the last of " + many, square.about(many - 1, 0), 2 * (many - 1));
            }
        }
    }

    private static void aboutWhatIs0To8() {
        MarketAwnings square = new MarketAwnings();
        square.hang(3, 7, 5, 2, 9, UP);
        square.rain(20);
        int[] due = {3, 7, 5, 2, 9, 1, 1, 10, 200};
        for (int what = 0; what <= 8; what++) {
            Check.is("about: what " + what, square.about(0, what), due[what]);
        }
        for (int wrong : new int[] {-1, 9, -8, 10, MIN, MAX}) {
            Check.refuses(square, "about: what " + wrong, INDEX, () -> square.about(0, wrong));
        }
    }

    // "7 cells that it covers, and no other one"

    private static void aboutCellsAlone() {
        MarketAwnings square = Squares.whole(DOWN);
        Check.is("alone: all", square.about(0, 7), 576);
        square.hang(0, 0, 1, 1, 1, DOWN);
        Check.is("alone: all but the first cell", square.about(0, 7), 575);
        Check.is("alone: the one over the first cell", square.about(1, 7), 0);
        square.hang(23, 23, 1, 1, 9, DOWN);
        Check.is("alone: all but the last cell, too", square.about(0, 7), 574);
        square.hang(0, 0, 24, 24, 9, DOWN);
        for (int i = 0; i < 4; i++) {
            Check.is("alone: two over all, " + i, square.about(i, 7), 0);
        }
        MarketAwnings beside = new MarketAwnings();
        beside.hang(5, 5, 3, 3, 1, DOWN);
        beside.hang(8, 5, 3, 3, 1, DOWN);
        beside.hang(5, 8, 3, 3, 1, DOWN);
        beside.hang(7, 7, 2, 2, 1, DOWN);
        int[] due = {8, 8, 8, 1};
        for (int i = 0; i < due.length; i++) {
            Check.is("alone: one cell of each beneath another, " + i, beside.about(i, 7), due[i]);
        }
    }

    private static void aboutCellsAloneOfOneThatIsIn() {
        MarketAwnings square = new MarketAwnings();
        square.hang(5, 5, 3, 3, 1, DOWN);
        square.hang(5, 5, 3, 3, 9, DOWN);
        square.roll(1);
        Check.is("alone: one that is in covers none", square.about(1, 7), 0);
        Check.is("alone: and takes none", square.about(0, 7), 9);
        square.roll(0);
        Check.is("alone: both in", square.about(0, 7), 0);
    }

    // "8 drops that went over its side in all"

    private static void aboutDropsInAll() {
        MarketAwnings square = new MarketAwnings();
        square.hang(0, 0, 24, 24, 1, DOWN);
        Check.is("drops in all: none at first", square.about(0, 8), 0);
        square.rain(1);
        Check.is("drops in all: an hour", square.about(0, 8), 576);
        square.hang(0, 0, 24, 24, 2, DOWN);
        square.rain(20);
        Check.is("drops in all: none under another one", square.about(0, 8), 576);
        Check.is("drops in all: all over the other one", square.about(1, 8), 11520);
        square.roll(1);
        square.rain(1);
        Check.is("drops in all: again, when that is in", square.about(0, 8), 1152);
        square.roll(0);
        square.rain(1);
        Check.is("drops in all: they stay when it is in", square.about(0, 8), 1152);
        square.take(0);
        Check.is("drops in all: the one behind moves up with its own", square.about(0, 8), 11520);
    }

    // "Throws IndexOutOfBoundsException if x or y is not 0 to 23, or what is not 0 to 2"

    private static void cellColumnsAndRows0To23() {
        for (int[] p : new int[][] {{0, 0}, {23, 0}, {0, 23}, {23, 23}}) {
            MarketAwnings square = new MarketAwnings();
            square.hang(p[0], p[1], 1, 1, 1, DOWN);
            for (int[] q : new int[][] {{0, 0}, {23, 0}, {0, 23}, {23, 23}}) {
                boolean same = p[0] == q[0] && p[1] == q[1];
                Check.is("cell: corner " + q[0] + ", " + q[1], square.cell(q[0], q[1], 0), same ? 1 : 0);
            }
        }
        MarketAwnings square = Squares.of(2, 2);
        for (int wrong : new int[] {-1, 24, -24, 25, MIN, MAX}) {
            for (int what = 0; what <= 2; what++) {
                int asked = what;
                Check.refuses(square, "cell: x " + wrong, INDEX, () -> square.cell(wrong, 0, asked));
                Check.refuses(square, "cell: y " + wrong, INDEX, () -> square.cell(0, wrong, asked));
            }
            Check.refuses(square, "cell: all wrong", INDEX, () -> square.cell(wrong, wrong, wrong));
        }
    }

    private static void cellThatFoldsOntoAnother() {
        MarketAwnings square = Squares.whole(DOWN);
        Check.refuses(square, "cell: beyond the end of a row", INDEX, () -> square.cell(24, 0, 0));
        Check.refuses(square, "cell: before the start of a row", INDEX, () -> square.cell(-1, 1, 0));
        Check.refuses(square, "cell: beyond the end of a column", INDEX, () -> square.cell(0, 24, 0));
        Check.refuses(square, "cell: before the start of a column", INDEX, () -> square.cell(1, -1, 0));
    }

    private static void cellWhatIs0To2() {
        MarketAwnings square = new MarketAwnings();
        square.hang(4, 4, 1, 1, 9, DOWN);
        square.rain(20);
        int[] below = {0, -1, 40};
        int[] over = {1, 0, 0};
        for (int what = 0; what <= 2; what++) {
            Check.is("cell: what " + what + ", beyond it", square.cell(4, 5, what), below[what]);
            Check.is("cell: what " + what + ", under it", square.cell(4, 4, what), over[what]);
        }
        for (int wrong : new int[] {-1, 3, -2, 4, MIN, MAX}) {
            Check.refuses(square, "cell: what " + wrong, INDEX, () -> square.cell(4, 4, wrong));
        }
    }

    // "0 how many awnings lie over it"

    private static void cellLayersFromNoneToTen() {
        MarketAwnings square = new MarketAwnings();
        for (int many = 1; many <= 10; many++) {
            Check.is("cell: layers before " + many, square.cell(23, 23, 0), many - 1);
            square.hang(23 - many % 3, 23 - many % 4, 1 + many % 3, 1 + many % 4, 1 + many % 9, UP);
            Check.is("cell: layers, " + many, square.cell(23, 23, 0), many);
        }
        for (int left = 9; left >= 0; left--) {
            square.roll(left);
            Check.is("cell: layers, rolled in down to " + left, square.cell(23, 23, 0), left);
        }
    }

    // "The highest one over a cell is that of the greatest level, of several the smallest number."

    private static void cellHighestOfTheGreatestLevel() {
        MarketAwnings up = new MarketAwnings();
        MarketAwnings down = new MarketAwnings();
        for (int i = 0; i < 9; i++) {
            up.hang(7, 7, 1, 1, i + 1, UP);
            down.hang(7, 7, 1, 1, 9 - i, UP);
            Check.is("highest: the last of rising levels", up.cell(7, 7, 1), i);
            Check.is("highest: the first of falling levels", down.cell(7, 7, 1), 0);
        }
        for (int i = 8; i >= 0; i--) {
            Check.is("highest: rising, down to " + i, up.cell(7, 7, 1), i);
            Check.is("highest: falling, from " + (8 - i), down.cell(7, 7, 1), 8 - i);
            up.roll(i);
            down.roll(8 - i);
        }
        Check.is("highest: none is out", up.cell(7, 7, 1), -1);
    }

    private static void cellHighestOfTheSmallestNumber() {
        for (int level : new int[] {1, 9}) {
            MarketAwnings square = new MarketAwnings();
            for (int i = 0; i < 10; i++) {
                square.hang(7, 7, 1, 1, level, UP);
                Check.is("highest: of one level the first", square.cell(7, 7, 1), 0);
            }
            for (int i = 0; i < 9; i++) {
                square.roll(i);
                Check.is("highest: of one level the next", square.cell(7, 7, 1), i + 1);
            }
            for (int i = 8; i >= 0; i--) {
                square.roll(i);
                Check.is("highest: of one level the one before", square.cell(7, 7, 1), i);
            }
        }
    }

    // "1 the highest one, -1 for none"

    private static void cellHighestNoneAndTheLast() {
        MarketAwnings square = Squares.of(9, 0);
        square.hang(23, 23, 1, 1, 1, UP);
        Check.is("highest: the tenth", square.cell(23, 23, 1), 9);
        Check.is("highest: none above it", square.cell(23, 22, 1), -1);
        Check.is("highest: none beside it", square.cell(22, 23, 1), -1);
        square.take(0);
        Check.is("highest: moved up", square.cell(23, 23, 1), 8);
    }

    // "Throws IndexOutOfBoundsException if column is not 0 to 23, or what is not 0 to 3"

    private static void cordColumns0To23() {
        for (int covered : new int[] {0, 1, 22, 23}) {
            MarketAwnings square = new MarketAwnings();
            square.hang(covered, 4, 1, 5, 3, UP);
            for (int column = 0; column < 24; column++) {
                Check.is("cord: column " + column, square.cord(column, 0), column == covered ? 5 : 0);
            }
            for (int wrong : new int[] {-1, 24, -24, 25, MIN, MAX}) {
                Check.refuses(square, "cord: column " + wrong, INDEX, () -> square.cord(wrong, 0));
                Check.refuses(square, "cord: both wrong", INDEX, () -> square.cord(wrong, 4));
            }
        }
    }

    private static void cordWhatIs0To3() {
        MarketAwnings square = new MarketAwnings();
        square.hang(3, 4, 1, 5, 3, UP);
        square.hang(3, 4, 1, 2, 4, UP);
        square.hang(3, 12, 1, 2, 4, UP);
        int[] due = {7, 2, 5, 2};
        for (int what = 0; what <= 3; what++) {
            Check.is("cord: what " + what, square.cord(3, what), due[what]);
            for (int wrong : new int[] {-1, 4, -3, 5, MIN, MAX}) {
                Check.refuses(square, "cord: what " + wrong, INDEX, () -> square.cord(3, wrong));
            }
        }
    }

    // "In a column, cells that are covered and lie one below the other are a run."

    private static void cordNothingAndAll() {
        MarketAwnings square = new MarketAwnings();
        cordIs(square, 12, 0, 0, 0, 0);
        square.hang(12, 11, 1, 1, 3, UP);
        cordIs(square, 12, 1, 1, 1, 1);
        square.hang(12, 0, 1, 24, 3, UP);
        cordIs(square, 12, 24, 1, 24, 2);
        cordIs(square, 11, 0, 0, 0, 0);
        cordIs(square, 13, 0, 0, 0, 0);
    }

    private static void cordRunsAtBothEnds() {
        MarketAwnings square = new MarketAwnings();
        square.hang(0, 0, 24, 1, 3, UP);
        cordIs(square, 0, 1, 1, 1, 1);
        square.hang(0, 23, 24, 1, 3, UP);
        cordIs(square, 0, 2, 2, 1, 1);
        cordIs(square, 23, 2, 2, 1, 1);
        square.hang(23, 1, 1, 11, 3, UP);
        cordIs(square, 23, 13, 2, 12, 1);
        square.hang(23, 13, 1, 10, 3, UP);
        cordIs(square, 23, 23, 2, 12, 1);
        square.hang(23, 12, 1, 1, 3, UP);
        cordIs(square, 23, 24, 1, 24, 1);
        cordIs(square, 22, 2, 2, 1, 1);
    }

    private static void cordMostRuns() {
        MarketAwnings square = new MarketAwnings();
        for (int i = 0; i < 10; i++) {
            square.hang(6, 23 - 2 * i, 1, 1, 3, UP);
            cordIs(square, 6, i + 1, i + 1, 1, 1);
        }
        square.move(9, 6, 22);
        cordIs(square, 6, 10, 8, 3, 1);
    }

    private static void cordLongestFirstAndLast() {
        MarketAwnings square = new MarketAwnings();
        square.hang(6, 0, 1, 4, 3, UP);
        square.hang(6, 5, 1, 3, 3, UP);
        cordIs(square, 6, 7, 2, 4, 1);
        square.hang(6, 19, 1, 5, 3, UP);
        cordIs(square, 6, 12, 3, 5, 1);
        square.hang(6, 10, 1, 5, 3, UP);
        cordIs(square, 6, 17, 4, 5, 1);
        square.hang(6, 12, 1, 4, 3, UP);
        cordIs(square, 6, 18, 4, 6, 2);
    }

    // "3 the most awnings that lie over one of its cells"

    private static void cordMostLayers() {
        for (int row : new int[] {0, 12, 23}) {
            MarketAwnings square = new MarketAwnings();
            for (int i = 0; i < 10; i++) {
                square.hang(0, row, 24, 1, 3, UP);
                Check.is("cord: the most over the first column", square.cord(0, 3), i + 1);
                Check.is("cord: the most over the last column", square.cord(23, 3), i + 1);
            }
            square.roll(5);
            Check.is("cord: the most, one is in", square.cord(23, 3), 9);
        }
    }

    private static void cordIs(MarketAwnings square, int column, int covered, int runs, int longest, int most) {
        int[] due = {covered, runs, longest, most};
        for (int what = 0; what <= 3; what++) {
            Check.is("cord(" + column + ", " + what + ")", square.cord(column, what), due[what]);
        }
    }

    // "Throws IndexOutOfBoundsException if there is no such stall, or what is not 0 to 3"

    private static void toldKnowsTheFirstAndTheLast() {
        for (int many = 0; many <= 8; many++) {
            MarketAwnings square = Squares.of(3, many);
            for (int wrong : new int[] {-1, many, many + 1, 8, MIN, MAX}) {
                Check.refuses(square, "told: " + wrong + " of " + many, INDEX, () -> square.told(wrong, 0));
                Check.refuses(square, "told: both wrong, of " + many, INDEX, () -> square.told(wrong, 4));
            }
            if (many > 0) {
                Check.is("told: the first of " + many, square.told(0, 0), 0);
                Check.is("told: the last of " + many, square.told(many - 1, 0), 3 * (many - 1));
            }
        }
    }

    private static void toldWhatIs0To3() {
        MarketAwnings square = new MarketAwnings();
        square.stall(23, 7);
        square.rain(20);
        square.hang(22, 7, 2, 1, 1, UP);
        int[] due = {23, 7, 20, 1};
        for (int what = 0; what <= 3; what++) {
            Check.is("told: what " + what, square.told(0, what), due[what]);
        }
        for (int wrong : new int[] {-1, 4, -3, 5, MIN, MAX}) {
            Check.refuses(square, "told: what " + wrong, INDEX, () -> square.told(0, wrong));
        }
    }

    // "3 how many awnings lie over it"

    private static void toldAwningsOverItFromNoneToTen() {
        MarketAwnings square = new MarketAwnings();
        square.stall(0, 0);
        square.stall(23, 23);
        for (int many = 1; many <= 10; many++) {
            square.hang(0, 0, many, many, 1 + many % 9, UP);
            Check.is("told: over the first cell", square.told(0, 3), many);
            Check.is("told: over the last cell", square.told(1, 3), 0);
        }
        for (int left = 9; left >= 0; left--) {
            square.roll(left);
            Check.is("told: rolled in down to " + left, square.told(0, 3), left);
        }
    }

    // "Throws IndexOutOfBoundsException if there is no such awning" (share)

    private static void shareKnowsTheFirstAndTheLast() {
        for (int many = 0; many <= 10; many++) {
            MarketAwnings square = Squares.of(many, 0);
            for (int wrong : new int[] {-1, many, 10, MIN, MAX}) {
                Check.refuses(square, "share: both " + wrong + " of " + many, INDEX, () -> square.share(wrong, wrong));
                Check.refuses(square, "share: a " + wrong + " of " + many, INDEX, () -> square.share(wrong, 0));
                Check.refuses(square, "share: b " + wrong + " of " + many, INDEX, () -> square.share(0, wrong));
            }
            if (many > 0) {
                Check.is("share: the first and the last", square.share(0, many - 1), many == 1 ? 1 : 0);
                Check.is("share: the last, itself", square.share(many - 1, many - 1), 1);
                square.roll(0);
                Check.refuses(square, "share: one that is in and none", INDEX, () -> square.share(0, 10));
            }
        }
    }

    // "b: an awning (the same one, too)"

    private static void shareItself() {
        MarketAwnings square = Squares.whole(UP);
        square.hang(23, 23, 1, 1, 1, UP);
        square.hang(0, 3, 24, 1, 1, UP);
        int[] due = {576, 1, 24};
        for (int i = 0; i < due.length; i++) {
            Check.is("share: itself, " + i, square.share(i, i), due[i]);
        }
    }

    // "Returns how many cells both cover"

    private static void shareTouchingAndOneCell() {
        for (int x = 5; x <= 13; x++) {
            for (int y = 6; y <= 12; y++) {
                MarketAwnings square = new MarketAwnings();
                square.hang(9, 9, 3, 2, 1, UP);
                square.hang(x, y, 2, 3, 5, UP);
                int wide = x == 8 || x == 11 ? 1 : x == 9 || x == 10 ? 2 : 0;
                int high = y == 7 || y == 10 ? 1 : y == 8 || y == 9 ? 2 : 0;
                Check.is("share: with one at " + x + ", " + y, square.share(0, 1), wide * high);
                Check.is("share: the other way round, " + x + ", " + y, square.share(1, 0), wide * high);
                Check.is("share: as many as lie under both", square.count(6), wide * high);
            }
        }
    }

    private static void shareWithin() {
        MarketAwnings square = Squares.whole(UP);
        square.hang(3, 0, 2, 24, 1, UP);
        square.hang(0, 5, 24, 3, 1, UP);
        square.hang(0, 0, 24, 24, 9, UP);
        Check.is("share: within", square.share(0, 1), 48);
        Check.is("share: the other way round", square.share(1, 0), 48);
        Check.is("share: across", square.share(1, 2), 6);
        Check.is("share: all", square.share(0, 3), 576);
    }

    // "0 if one of both is in"

    private static void shareOneIsIn() {
        MarketAwnings square = Squares.whole(UP);
        square.hang(0, 0, 24, 24, 1, UP);
        square.roll(0);
        Check.is("share: a is in", square.share(0, 1), 0);
        Check.is("share: b is in", square.share(1, 0), 0);
        Check.is("share: itself, in", square.share(0, 0), 0);
        Check.is("share: itself, out", square.share(1, 1), 576);
        square.roll(1);
        Check.is("share: both are in", square.share(0, 1), 0);
        square.roll(0);
        square.roll(1);
        Check.is("share: both are out again", square.share(0, 1), 576);
    }
}
