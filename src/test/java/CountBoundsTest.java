/** Promise 13, and what covered ground, outline and parts are, at their bounds: a test for each sentence. */
public final class CountBoundsTest {
    private static final Class<?> INDEX = Squares.INDEX;
    private static final int MIN = Squares.MIN;
    private static final int MAX = Squares.MAX;
    private static final int LEFT = Squares.LEFT;
    private static final int UP = Squares.UP;
    private static final int DOWN = Squares.DOWN;

    public static void main(String[] args) {
        countWhatIs0To10();
        countAwningsAndStallsToTheMost();
        countCoveredEachCellOnce();
        outlineOfNothingAndAll();
        outlineAtEachEdge();
        outlineInsideAHole();
        outlineOfCoveredGroundOnly();
        partsOfNothingAndAll();
        partsSideBySideNotOverACorner();
        partsOneByOneInEachDirection();
        partsDoNotFoldOverTheEdges();
        partsToTen();
        countTwoOrMore();
        countStallsNotCovered();
        Check.end("CountBoundsTest");
    }

    // "Throws IndexOutOfBoundsException if what is not 0 to 10"

    private static void countWhatIs0To10() {
        MarketAwnings square = new MarketAwnings();
        square.hang(0, 0, 4, 3, 1, LEFT);
        square.hang(2, 2, 4, 3, 1, DOWN);
        square.hang(10, 10, 1, 1, 1, DOWN);
        square.hang(20, 20, 1, 1, 1, DOWN);
        square.roll(3);
        square.stall(0, 0);
        square.stall(20, 20);
        square.stall(21, 21);
        square.rain(5);
        int[] due = {4, 3, 3, 23, 26, 2, 2, 1, 2820, 60, 2};
        for (int what = 0; what <= 10; what++) {
            Check.is("count: what " + what, square.count(what), due[what]);
        }
        for (int wrong : new int[] {-1, 11, -10, 12, MIN, MAX}) {
            Check.refuses(square, "count: what " + wrong, INDEX, () -> square.count(wrong));
        }
    }

    // "0 awnings, 1 those that are out, 2 stalls": from none to the most

    private static void countAwningsAndStallsToTheMost() {
        for (int many = 0; many <= 10; many++) {
            MarketAwnings square = Squares.of(many, Math.min(many, 8));
            Check.is("count: awnings, " + many, square.count(0), many);
            Check.is("count: out, " + many, square.count(1), many);
            Check.is("count: stalls, " + many, square.count(2), Math.min(many, 8));
            for (int i = 0; i < many; i++) {
                square.roll(i);
                Check.is("count: out, rolled in " + (i + 1), square.count(1), many - 1 - i);
                Check.is("count: awnings, rolled in " + (i + 1), square.count(0), many);
            }
        }
    }

    // "A cell is covered, if an awning or more lies over it." "each cell counted once"

    private static void countCoveredEachCellOnce() {
        MarketAwnings square = new MarketAwnings();
        for (int i = 0; i < 10; i++) {
            square.hang(23, 23, 1, 1, 9, UP);
            Check.is("covered: one cell under " + (i + 1), square.count(3), 1);
        }
        square.take(9);
        square.hang(0, 0, 24, 24, 1, UP);
        Check.is("covered: all", square.count(3), 576);
        square.take(9);
        square.hang(0, 0, 24, 23, 1, UP);
        Check.is("covered: all but a row, and a cell of it", square.count(3), 553);
    }

    // "how many sides of covered cells there are beyond which lies a cell that is not covered, or the edge"

    private static void outlineOfNothingAndAll() {
        MarketAwnings square = new MarketAwnings();
        Check.is("outline: nothing", square.count(4), 0);
        square.hang(0, 0, 24, 24, 1, UP);
        Check.is("outline: all", square.count(4), 96);
        square.roll(0);
        Check.is("outline: rolled in", square.count(4), 0);
    }

    private static void outlineAtEachEdge() {
        int[] places = {0, 1, 12, 22, 23};
        for (int x : places) {
            for (int y : places) {
                MarketAwnings square = new MarketAwnings();
                square.hang(x, y, 1, 1, 1, UP);
                Check.is("outline: a cell at " + x + ", " + y, square.count(4), 4);
            }
        }
        MarketAwnings rows = new MarketAwnings();
        rows.hang(0, 0, 24, 1, 1, UP);
        rows.hang(0, 23, 24, 1, 1, UP);
        Check.is("outline: the first row and the last", rows.count(4), 100);
        rows.hang(0, 1, 1, 22, 1, UP);
        Check.is("outline: and the first column", rows.count(4), 50 + 50 - 2 + 44);
        rows.hang(23, 1, 1, 22, 1, UP);
        Check.is("outline: and the last column", rows.count(4), 96 + 88);
    }

    private static void outlineInsideAHole() {
        MarketAwnings square = new MarketAwnings();
        square.hang(0, 0, 24, 12, 1, UP);
        square.hang(0, 13, 24, 11, 1, UP);
        square.hang(0, 12, 12, 1, 1, UP);
        square.hang(13, 12, 11, 1, 1, UP);
        Check.is("outline: a hole of one cell", square.count(3), 575);
        Check.is("outline: the edge and the hole", square.count(4), 100);
        Check.is("outline: one part", square.count(5), 1);
    }

    private static void outlineOfCoveredGroundOnly() {
        MarketAwnings square = new MarketAwnings();
        square.hang(4, 4, 6, 6, 1, UP);
        for (int i = 0; i < 9; i++) {
            square.hang(4 + i % 5, 5, 2, 3, 9, UP);
            Check.is("outline: none between awnings that lie over each other", square.count(4), 24);
        }
        square.move(1, 10, 4);
        Check.is("outline: beside the other one", square.count(4), 28);
    }

    // "Its parts: covered cells that lie side by side (not over a corner), one by one, are one."

    private static void partsOfNothingAndAll() {
        MarketAwnings square = new MarketAwnings();
        Check.is("parts: nothing", square.count(5), 0);
        square.hang(0, 0, 24, 24, 1, UP);
        Check.is("parts: all", square.count(5), 1);
        square.hang(3, 3, 1, 1, 9, UP);
        Check.is("parts: one over the other", square.count(5), 1);
        square.roll(0);
        Check.is("parts: a cell", square.count(5), 1);
        square.roll(1);
        Check.is("parts: none is out", square.count(5), 0);
    }

    private static void partsSideBySideNotOverACorner() {
        for (int dx = -1; dx <= 1; dx++) {
            for (int dy = -1; dy <= 1; dy++) {
                MarketAwnings square = new MarketAwnings();
                square.hang(12, 12, 1, 1, 1, UP);
                square.hang(12 + dx, 12 + dy, 1, 1, 1, UP);
                boolean corner = dx != 0 && dy != 0;
                Check.is("parts: beside it by " + dx + ", " + dy, square.count(5), corner ? 2 : 1);
                if (corner) {
                    square.hang(12 + dx, 12, 1, 1, 1, UP);
                    Check.is("parts: one by one", square.count(5), 1);
                }
            }
        }
    }

    /** A line that winds back on itself, laid in each of four directions: it is met at its end, at its start, or between. */
    private static void partsOneByOneInEachDirection() {
        int[][] line = {{0, 0, 7, 1}, {6, 0, 1, 7}, {0, 6, 7, 1}, {0, 2, 1, 5}, {0, 2, 5, 1}, {4, 2, 1, 3}, {2, 4, 3, 1}};
        for (int turn = 0; turn < 8; turn++) {
            MarketAwnings square = new MarketAwnings();
            for (int[] p : line) {
                hangTurned(square, p, turn);
            }
            Check.is("parts: a winding line, turned " + turn, square.count(5), 1);
            Check.is("parts: its cells", square.count(3), 31);
            Check.is("parts: its outline", square.count(4), 64);
            square.roll(3);
            Check.is("parts: without a piece between, turned " + turn, square.count(5), 2);
        }
    }

    /** Turned over by columns, by rows, and over the corner, as the three bits of turn say. */
    private static void hangTurned(MarketAwnings square, int[] p, int turn) {
        int x = (turn & 1) == 0 ? p[0] : 7 - p[0] - p[2];
        int y = (turn & 2) == 0 ? p[1] : 7 - p[1] - p[3];
        if ((turn & 4) == 0) {
            square.hang(9 + x, 9 + y, p[2], p[3], 1, UP);
        } else {
            square.hang(9 + y, 9 + x, p[3], p[2], 1, UP);
        }
    }

    private static void partsDoNotFoldOverTheEdges() {
        int[][] apart = {{23, 4, 0, 5}, {23, 4, 0, 4}, {4, 0, 4, 23}, {0, 0, 23, 23}, {23, 0, 0, 23}, {23, 22, 0, 23}};
        for (int[] p : apart) {
            MarketAwnings square = new MarketAwnings();
            square.hang(p[0], p[1], 1, 1, 1, UP);
            square.hang(p[2], p[3], 1, 1, 1, UP);
            Check.is("parts: at " + p[0] + ", " + p[1] + " and " + p[2] + ", " + p[3], square.count(5), 2);
        }
    }

    private static void partsToTen() {
        MarketAwnings square = new MarketAwnings();
        for (int i = 0; i < 9; i++) {
            square.hang(i, i, 1, 1, 1, UP);
            Check.is("parts: over corners", square.count(5), i + 1);
        }
        square.hang(23, 23, 1, 1, 1, UP);
        Check.is("parts: ten", square.count(5), 10);
        square.take(9);
        square.hang(4, 0, 1, 9, 1, UP);
        Check.is("parts: some of them joined", square.count(5), 7);
    }

    // "6 cells over which two awnings or more lie"

    private static void countTwoOrMore() {
        MarketAwnings square = new MarketAwnings();
        Check.is("two or more: none", square.count(6), 0);
        square.hang(0, 0, 24, 24, 1, UP);
        Check.is("two or more: one over all", square.count(6), 0);
        square.hang(23, 23, 1, 1, 1, UP);
        Check.is("two or more: one cell", square.count(6), 1);
        square.hang(23, 23, 1, 1, 1, UP);
        Check.is("two or more: three over it", square.count(6), 1);
        square.hang(0, 0, 24, 24, 9, UP);
        Check.is("two or more: all", square.count(6), 576);
        square.roll(0);
        Check.is("two or more: one of both is in", square.count(6), 1);
    }

    // "10 stalls that are not covered"

    private static void countStallsNotCovered() {
        MarketAwnings square = Squares.of(0, 8);
        Check.is("not covered: all", square.count(10), 8);
        for (int i = 0; i < 8; i++) {
            square.hang(3 * i, 20, 1, 1, 1, UP);
            Check.is("not covered: but for " + (i + 1), square.count(10), 7 - i);
        }
        square.roll(7);
        Check.is("not covered: one is in", square.count(10), 1);
        square.hang(0, 20, 24, 1, 1, UP);
        Check.is("not covered: none", square.count(10), 0);
    }
}
