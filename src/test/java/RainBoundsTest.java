/** The hour of rain, and promises 6, 7, 11 and 14, at their bounds: a test for each sentence that names one. */
public final class RainBoundsTest {
    private static final Class<?> ARGUMENT = Squares.ARGUMENT;
    private static final Class<?> INDEX = Squares.INDEX;
    private static final Class<?> STATE = Squares.STATE;
    private static final int MIN = Squares.MIN;
    private static final int MAX = Squares.MAX;
    private static final int LEFT = Squares.LEFT;
    private static final int UP = Squares.UP;
    private static final int RIGHT = Squares.RIGHT;
    private static final int DOWN = Squares.DOWN;

    public static void main(String[] args) {
        stallCellsInTheSquare();
        stallCellsThatFoldOntoAnother();
        stallTellsTheNumber();
        stallAtMostEight();
        stallOneIsThere();
        stallFirstNamedExceptionFirst();
        stallUnderAwnings();
        rainDropsAre1To20();
        rainOnBareGround();
        rainOnACoveredSquareRunsOff();
        rainTellsWhatFallsOnTheGround();
        dropsFallOnTheHighest();
        dropsBeyondEachEdgeRunOff();
        dropsJustWithinEachEdgeStay();
        dropsGoToTheCellsJustBeyondAlone();
        remainderForEachWidth();
        remainderForEachHeight();
        noDropsOverTheSide();
        fewerDropsThanCells();
        theGreatestLevelGoesFirst();
        dropsFallOnSmallerLevelsAlone();
        dropsFallOnTheHighestOfTheSmallerOnes();
        dropsFallBelowAHigherOne();
        dropsOfSeveralMeet();
        oneThatIsInNeitherCatchesNorDrips();
        groundKeepsItsDrops();
        groundAddsUpToTheLastCall();
        sidesAddUpToTheLastCall();
        runOffAddsUpToTheLastCall();
        stallGetsWhatFellSinceItIsThere();
        stallGetsNothingUnderAnAwning();
        wouldKnowsTheFirstAndTheLast();
        wouldDropsAre1To20();
        wouldFirstNamedExceptionFirst();
        wouldTellsWhatRainBrings();
        wouldChangesNothing();
        Check.end("RainBoundsTest");
    }

    // "Throws IndexOutOfBoundsException if x or y is not 0 to 23"

    private static void stallCellsInTheSquare() {
        MarketAwnings square = new MarketAwnings();
        Check.is("stall: first cell", square.stall(0, 0), 0);
        Check.is("stall: last column", square.stall(23, 0), 1);
        Check.is("stall: last row", square.stall(0, 23), 2);
        Check.is("stall: last cell", square.stall(23, 23), 3);
        for (int wrong : new int[] {-1, 24, -24, 25, MIN, MAX}) {
            Check.refuses(square, "stall: x " + wrong, INDEX, () -> square.stall(wrong, 5));
            Check.refuses(square, "stall: y " + wrong, INDEX, () -> square.stall(5, wrong));
            Check.refuses(square, "stall: both " + wrong, INDEX, () -> square.stall(wrong, wrong));
        }
    }

    private static void stallCellsThatFoldOntoAnother() {
        MarketAwnings square = new MarketAwnings();
        square.stall(0, 1);
        Check.refuses(square, "stall: beyond the end of a row", INDEX, () -> square.stall(24, 0));
        Check.refuses(square, "stall: before the start of a row", INDEX, () -> square.stall(-24, 2));
        Check.refuses(square, "stall: beyond the end of a column", INDEX, () -> square.stall(0, 25));
        Check.is("stall: the end of the row before", square.stall(23, 0), 1);
        Check.is("stall: column and row the other way round", square.stall(1, 0), 2);
    }

    // "Returns its number." "At most 8, numbered from 0"

    private static void stallTellsTheNumber() {
        MarketAwnings square = new MarketAwnings();
        for (int i = 0; i < 8; i++) {
            Check.is("stall: number " + i, square.stall(23 - i, 3 * i), i);
            Check.is("stall: its column", square.told(i, 0), 23 - i);
            Check.is("stall: its row", square.told(i, 1), 3 * i);
            Check.is("stall: counted", square.count(2), i + 1);
        }
    }

    // "Throws IllegalStateException if there are 8, or one is there"

    private static void stallAtMostEight() {
        MarketAwnings square = Squares.of(0, 7);
        Check.is("stall: the eighth", square.stall(23, 23), 7);
        Check.refuses(square, "stall: the ninth", STATE, () -> square.stall(12, 12));
        Check.refuses(square, "stall: the ninth, where one is", STATE, () -> square.stall(23, 23));
        Check.refuses(square, "stall: the ninth, in the first cell", STATE, () -> square.stall(0, 0));
        Check.is("stall: there are eight", square.count(2), 8);
    }

    private static void stallOneIsThere() {
        for (int many = 1; many <= 8; many++) {
            MarketAwnings square = Squares.of(0, many);
            for (int i = 0; i < many; i++) {
                int x = 3 * i;
                Check.refuses(square, "stall: where " + i + " of " + many + " is", STATE, () -> square.stall(x, 20));
            }
        }
        MarketAwnings beside = new MarketAwnings();
        beside.stall(5, 5);
        Check.is("stall: to the right of it", beside.stall(6, 5), 1);
        Check.is("stall: to the left of it", beside.stall(4, 5), 2);
        Check.is("stall: above it", beside.stall(5, 4), 3);
        Check.is("stall: below it", beside.stall(5, 6), 4);
        Check.refuses(beside, "stall: at it", STATE, () -> beside.stall(5, 5));
    }

    // "If several exceptions apply, the one that is named first is thrown."

    private static void stallFirstNamedExceptionFirst() {
        MarketAwnings square = Squares.of(0, 8);
        for (int wrong : new int[] {-1, 24, MIN, MAX}) {
            Check.refuses(square, "stall: x before eight", INDEX, () -> square.stall(wrong, 20));
            Check.refuses(square, "stall: y before eight", INDEX, () -> square.stall(0, wrong));
        }
    }

    private static void stallUnderAwnings() {
        MarketAwnings square = Squares.whole(LEFT);
        for (int i = 1; i < 10; i++) {
            square.hang(0, 0, 24, 24, i, UP);
        }
        Check.is("stall: under ten awnings", square.stall(11, 13), 0);
        Check.is("stall: all of them over it", square.told(0, 3), 10);
        Check.is("stall: it is covered", square.count(10), 0);
        Squares.rollAll(square);
        Check.is("stall: none over it", square.told(0, 3), 0);
        Check.is("stall: it is not covered", square.count(10), 1);
    }

    // "Throws IllegalArgumentException if drops is not 1 to 20" (rain)

    private static void rainDropsAre1To20() {
        MarketAwnings square = Squares.of(3, 3);
        for (int wrong : new int[] {0, 21, -1, -20, MIN, MAX, MIN + 1, MAX - 1}) {
            Check.refuses(square, "rain: " + wrong, ARGUMENT, () -> square.rain(wrong));
        }
        Check.is("rain: no hour of it", square.count(7), 0);
        square.rain(1);
        square.rain(20);
        Check.is("rain: the least and the most", square.count(7), 2);
    }

    private static void rainOnBareGround() {
        MarketAwnings square = new MarketAwnings();
        int sum = 0;
        for (int drops = 1; drops <= 20; drops++) {
            sum += drops;
            Check.is("rain: bare ground, " + drops, square.rain(drops), 576 * drops);
            Check.is("rain: on the first cell", square.cell(0, 0, 2), sum);
            Check.is("rain: on the last cell", square.cell(23, 23, 2), sum);
            Check.is("rain: on all ground", square.count(8), 576 * sum);
            Check.is("rain: nothing ran off", square.count(9), 0);
        }
    }

    private static void rainOnACoveredSquareRunsOff() {
        for (int side : Squares.SIDES) {
            MarketAwnings square = Squares.whole(side);
            Check.is("rain: all covered, side " + side, square.rain(1), 0);
            Check.is("rain: all covered, the most, side " + side, square.rain(20), 0);
            Check.is("rain: all ran off, side " + side, square.count(9), 576 * 21);
            Check.is("rain: all ground is dry, side " + side, square.count(8), 0);
            Check.is("rain: all over the side " + side, square.about(0, 8), 576 * 21);
        }
    }

    // "Returns how many of them fall on the ground (the others run off)."

    private static void rainTellsWhatFallsOnTheGround() {
        MarketAwnings square = new MarketAwnings();
        square.hang(0, 3, 2, 5, 4, LEFT);
        square.hang(3, 0, 5, 2, 6, UP);
        square.hang(12, 12, 3, 3, 8, DOWN);
        int ground = 0;
        int off = 0;
        for (int drops = 1; drops <= 20; drops++) {
            int fell = square.rain(drops);
            ground += fell;
            off += 576 * drops - fell;
            Check.is("rain: on the ground, " + drops, fell, 576 * drops - 20 * drops);
            Check.is("rain: on all ground in all", square.count(8), ground);
            Check.is("rain: ran off in all", square.count(9), off);
        }
    }

    // "The drops of a cell fall on the highest awning over it, or else on the ground."

    private static void dropsFallOnTheHighest() {
        for (int highest = 0; highest < 10; highest++) {
            MarketAwnings square = new MarketAwnings();
            for (int i = 0; i < 10; i++) {
                square.hang(5, 0, 1, 1, i == highest ? 9 : 8, UP);
            }
            square.rain(7);
            for (int i = 0; i < 10; i++) {
                Check.is("drops: the greatest level is " + highest + ", " + i, square.about(i, 8), i == highest ? 7 : 0);
            }
        }
        MarketAwnings even = new MarketAwnings();
        for (int i = 0; i < 10; i++) {
            even.hang(5, 0, 1, 1, 1, UP);
        }
        for (int first = 0; first < 10; first++) {
            even.rain(3);
            Check.is("drops: of one level the smallest number, " + first, even.about(first, 8), 3);
            even.roll(first);
        }
        even.rain(3);
        Check.is("drops: none is out, the ground", even.cell(5, 0, 2), 3);
    }

    // "Those beyond the edge of the square run off."

    private static void dropsBeyondEachEdgeRunOff() {
        int[][] places = {{0, 4, LEFT}, {4, 0, UP}, {21, 4, RIGHT}, {4, 21, DOWN}};
        for (int[] p : places) {
            MarketAwnings square = new MarketAwnings();
            square.hang(p[0], p[1], 3, 3, 5, p[2]);
            Check.is("edge: beyond it, side " + p[2], square.rain(2), 576 * 2 - 18);
            Check.is("edge: ran off, side " + p[2], square.count(9), 18);
        }
        int[][] corners = {{0, 0}, {23, 0}, {0, 23}, {23, 23}};
        for (int[] c : corners) {
            for (int side : Squares.SIDES) {
                MarketAwnings square = new MarketAwnings();
                square.hang(c[0], c[1], 1, 1, 5, side);
                boolean off = side == LEFT && c[0] == 0 || side == RIGHT && c[0] == 23
                    || side == UP && c[1] == 0 || side == DOWN && c[1] == 23;
                Check.is("edge: corner " + c[0] + ", " + c[1] + ", side " + side, square.rain(20), off ? 11500 : 11520);
                Check.is("edge: ran off at the corner", square.count(9), off ? 20 : 0);
            }
        }
    }

    private static void dropsJustWithinEachEdgeStay() {
        int[][] places = {{1, 4, LEFT, 0, 4, 0, 1}, {4, 1, UP, 4, 0, 1, 0},
            {20, 4, RIGHT, 23, 4, 0, 1}, {4, 20, DOWN, 4, 23, 1, 0}};
        for (int[] p : places) {
            MarketAwnings square = new MarketAwnings();
            square.hang(p[0], p[1], 3, 3, 5, p[2]);
            Check.is("edge: just within it, side " + p[2], square.rain(2), 576 * 2);
            Check.is("edge: nothing ran off, side " + p[2], square.count(9), 0);
            for (int k = 0; k < 3; k++) {
                Check.is("edge: a cell at it, side " + p[2], square.cell(p[3] + k * p[5], p[4] + k * p[6], 2), 2 + 6);
            }
        }
    }

    // "over its side, to the cells just beyond it, by columns or rows"

    private static void dropsGoToTheCellsJustBeyondAlone() {
        for (int side : Squares.SIDES) {
            for (int x = 4; x < 12; x++) {
                MarketAwnings square = new MarketAwnings();
                square.hang(6, 7, 4, 3, 5, side);
                square.rain(1);
                for (int y = 5; y < 12; y++) {
                    boolean under = x >= 6 && x < 10 && y >= 7 && y < 10;
                    int due = under ? 0 : isJustBeyond(side, x, y) ? 1 + 12 / (side % 2 == 0 ? 3 : 4) : 1;
                    Check.is("beyond: side " + side + ", cell " + x + ", " + y, square.cell(x, y, 2), due);
                }
            }
        }
    }

    private static boolean isJustBeyond(int side, int x, int y) {
        if (side == LEFT || side == RIGHT) {
            return x == (side == LEFT ? 5 : 10) && y >= 7 && y < 10;
        }
        return y == (side == UP ? 6 : 10) && x >= 6 && x < 10;
    }

    // "each gets as many as drops / these cells, and the first ones, as many as the remainder, one more"

    private static void remainderForEachWidth() {
        for (int w = 2; w <= 24; w++) {
            for (int shaded = 0; shaded < w; shaded++) {
                remainderOf(w, shaded, UP, 1);
                remainderOf(w, shaded, DOWN, 1);
            }
            remainderOf(w, 1, UP, 20);
            remainderOf(w, w - 1, DOWN, 20);
        }
    }

    private static void remainderForEachHeight() {
        for (int h = 2; h <= 24; h++) {
            for (int shaded = 0; shaded < h; shaded++) {
                remainderOf(h, shaded, LEFT, 1);
                remainderOf(h, shaded, RIGHT, 1);
            }
            remainderOf(h, 1, LEFT, 20);
            remainderOf(h, h - 1, RIGHT, 20);
        }
    }

    /** A line of cells in the middle, the last ones under a higher awning that drips to the other side. */
    private static void remainderOf(int cells, int shaded, int side, int drops) {
        boolean lies = side == UP || side == DOWN;
        int other = side ^ 2;
        int first = 24 - cells;
        MarketAwnings square = new MarketAwnings();
        square.hang(lies ? first : 12, lies ? 12 : first, lies ? cells : 1, lies ? 1 : cells, 2, side);
        if (shaded > 0) {
            int from = 24 - shaded;
            square.hang(lies ? from : 12, lies ? 12 : from, lies ? shaded : 1, lies ? 1 : shaded, 3, other);
        }
        Check.is("remainder: all on the ground", square.rain(drops), 576 * drops);
        int caught = (cells - shaded) * drops;
        Check.is("remainder: caught", square.about(0, 8), caught);
        int line = side == UP || side == LEFT ? 11 : 13;
        for (int i = 0; i < cells; i++) {
            int part = caught / cells + (i < caught % cells ? 1 : 0);
            int got = lies ? square.cell(first + i, line, 2) : square.cell(line, first + i, 2);
            Check.is("remainder: " + caught + " over " + cells + ", side " + side + ", the cell " + i, got, drops + part);
        }
    }

    private static void noDropsOverTheSide() {
        MarketAwnings square = new MarketAwnings();
        square.hang(5, 5, 3, 2, 1, DOWN);
        square.hang(5, 5, 3, 2, 2, UP);
        square.rain(20);
        Check.is("no drops: caught none", square.about(0, 8), 0);
        for (int x = 5; x < 8; x++) {
            Check.is("no drops: beyond it, only from the sky", square.cell(x, 7, 2), 20);
        }
    }

    private static void fewerDropsThanCells() {
        MarketAwnings square = new MarketAwnings();
        square.hang(0, 5, 24, 1, 1, DOWN);
        square.hang(0, 5, 23, 1, 2, UP);
        square.rain(1);
        Check.is("fewer: one drop caught", square.about(0, 8), 1);
        Check.is("fewer: the first cell gets it", square.cell(0, 6, 2), 2);
        Check.is("fewer: the second gets none", square.cell(1, 6, 2), 1);
        Check.is("fewer: the last gets none", square.cell(23, 6, 2), 1);
    }

    // "from the greatest level to the smallest, of those of one level from the smallest number on"

    private static void theGreatestLevelGoesFirst() {
        for (int turn = 0; turn < 9; turn++) {
            MarketAwnings square = new MarketAwnings();
            for (int i = 0; i < 9; i++) {
                int level = 9 - (i + turn) % 9;
                square.hang(9 - level, 4, 1, 1, level, RIGHT);
            }
            square.rain(2);
            for (int i = 0; i < 9; i++) {
                int level = 9 - (i + turn) % 9;
                Check.is("order: level " + level + " hung as " + i, square.about(i, 8), 2 * (10 - level));
            }
            Check.is("order: all come to the end", square.cell(9, 4, 2), 2 + 18);
        }
        for (int i = 0; i < 2; i++) {
            MarketAwnings square = new MarketAwnings();
            square.hang(5, 5, 1, 1, i == 0 ? 1 : 9, RIGHT);
            square.hang(6, 5, 1, 1, i == 0 ? 9 : 1, LEFT);
            square.rain(1);
            Check.is("order: the smallest level gets from the greatest", square.about(i, 8), 2);
            Check.is("order: and the greatest not from the smallest", square.about(1 - i, 8), 1);
        }
    }

    // "fall on the highest one over this cell of the awnings with a smaller level than this one"

    private static void dropsFallOnSmallerLevelsAlone() {
        for (int from = 1; from <= 9; from++) {
            for (int to = 1; to <= 9; to++) {
                MarketAwnings square = new MarketAwnings();
                square.hang(5, 5, 1, 1, from, RIGHT);
                square.hang(6, 5, 1, 1, to, DOWN);
                square.rain(3);
                String name = "levels: from " + from + " to " + to;
                Check.is(name + ", caught", square.about(1, 8), to < from ? 6 : 3);
                Check.is(name + ", ground below it", square.cell(6, 5, 2), to < from ? 0 : 3);
                Check.is(name + ", ground beyond it", square.cell(6, 6, 2), to < from ? 9 : 6);
            }
        }
    }

    private static void dropsFallOnTheHighestOfTheSmallerOnes() {
        int[] levels = {1, 4, 4, 7, 7, 9};
        int[] catches = {-1, -1, 0, 0, 0, 1, 1, 1, 3, 3};
        for (int from = 1; from <= 9; from++) {
            MarketAwnings square = new MarketAwnings();
            for (int level : levels) {
                square.hang(6, 0, 1, 1, level, UP);
            }
            square.hang(5, 0, 1, 1, from, RIGHT);
            square.rain(2);
            for (int i = 0; i < levels.length; i++) {
                int sky = i == 5 ? 2 : 0;
                Check.is("smaller ones: from " + from + ", number " + i, square.about(i, 8), i == catches[from] ? sky + 2 : sky);
            }
            Check.is("smaller ones: from " + from + ", ground", square.cell(6, 0, 2), catches[from] == -1 ? 2 : 0);
        }
    }

    private static void dropsFallBelowAHigherOne() {
        MarketAwnings square = new MarketAwnings();
        square.hang(5, 5, 1, 1, 4, RIGHT);
        square.hang(4, 3, 6, 6, 5, UP);
        square.hang(3, 5, 1, 1, 4, RIGHT);
        square.rain(2);
        Check.is("below: one under a higher one is dry", square.about(0, 8), 0);
        Check.is("below: to the ground under a higher one", square.cell(4, 5, 2), 2);
        Check.is("below: the higher one has its own", square.about(1, 8), 72);
    }

    private static void dropsOfSeveralMeet() {
        MarketAwnings square = new MarketAwnings();
        square.hang(4, 5, 1, 1, 3, RIGHT);
        square.hang(6, 5, 1, 1, 3, LEFT);
        square.hang(5, 4, 1, 1, 9, DOWN);
        square.hang(5, 6, 1, 1, 1, UP);
        square.stall(5, 5);
        Check.is("meet: all of them fall on the ground", square.rain(4), 576 * 4);
        Check.is("meet: in one cell", square.cell(5, 5, 2), 20);
        square.hang(5, 5, 1, 1, 2, DOWN);
        square.rain(4);
        Check.is("meet: on one awning, but for the smaller level", square.about(4, 8), 16);
        Check.is("meet: the smaller level's beneath it", square.cell(5, 5, 2), 20 + 4 + 16);
        Check.is("meet: and it catches what goes over the other one", square.about(3, 8), 4 + 4 + 16);
    }

    // "Awnings that are out"

    private static void oneThatIsInNeitherCatchesNorDrips() {
        MarketAwnings square = new MarketAwnings();
        square.hang(5, 5, 1, 1, 5, RIGHT);
        square.hang(6, 5, 1, 1, 4, RIGHT);
        square.roll(1);
        square.rain(3);
        Check.is("in: drops of another fall past it", square.cell(6, 5, 2), 6);
        Check.is("in: nothing beyond it", square.cell(7, 5, 2), 3);
        Check.is("in: nothing over its side", square.about(1, 8), 0);
        square.roll(1);
        square.rain(3);
        Check.is("in: out again it catches", square.about(1, 8), 6);
        square.roll(0);
        square.rain(3);
        Check.is("in: the one that dripped is in", square.about(1, 8), 6 + 3);
        Check.is("in: it keeps what it had", square.about(0, 8), 6);
        Check.is("in: its ground gets wet", square.cell(5, 5, 2), 3);
    }

    // "Drops on the ground stay there, and are added up, hour by hour"

    private static void groundKeepsItsDrops() {
        MarketAwnings square = new MarketAwnings();
        square.rain(9);
        square.hang(0, 0, 24, 24, 9, UP);
        Check.is("ground: stays under an awning", square.cell(12, 12, 2), 9);
        square.rain(20);
        Check.is("ground: nothing is added there", square.cell(12, 12, 2), 9);
        square.roll(0);
        square.rain(1);
        Check.is("ground: added again", square.cell(12, 12, 2), 10);
        square.take(0);
        Check.is("ground: stays when it is taken", square.count(8), 5760);
    }

    // "An object is used for at most 512 calls after it has been made" (to the last one, with the most drops)

    private static void groundAddsUpToTheLastCall() {
        MarketAwnings cell = new MarketAwnings();
        Squares.rain(cell, 511, 20);
        Check.is("512 calls: ground of a cell", cell.cell(23, 23, 2), 511 * 20);
        MarketAwnings all = new MarketAwnings();
        Squares.rain(all, 511, 20);
        Check.is("512 calls: all ground", all.count(8), 511 * 11520);
        MarketAwnings hours = new MarketAwnings();
        Squares.rain(hours, 511, 1);
        Check.is("512 calls: hours", hours.count(7), 511);
        MarketAwnings stall = new MarketAwnings();
        stall.stall(0, 0);
        Squares.rain(stall, 510, 20);
        Check.is("512 calls: a stall", stall.told(0, 2), 510 * 20);
        MarketAwnings mean = new MarketAwnings();
        mean.stall(0, 0);
        mean.stall(23, 23);
        Squares.rain(mean, 509, 20);
        Check.isDouble("512 calls: mean", mean.mean(), 10180.0);
        MarketAwnings last = new MarketAwnings();
        Squares.rain(last, 511, 20);
        Check.is("512 calls: the last hour", last.rain(20), 11520);
    }

    private static void sidesAddUpToTheLastCall() {
        MarketAwnings square = Squares.whole(DOWN);
        Squares.rain(square, 510, 20);
        Check.is("512 calls: over a side", square.about(0, 8), 510 * 11520);
        MarketAwnings onto = new MarketAwnings();
        onto.hang(0, 0, 24, 23, 9, DOWN);
        onto.hang(0, 23, 24, 1, 1, UP);
        Squares.rain(onto, 509, 20);
        Check.is("512 calls: over the second side", onto.about(1, 8), 509 * 11520);
    }

    private static void runOffAddsUpToTheLastCall() {
        MarketAwnings square = Squares.whole(LEFT);
        Squares.rain(square, 510, 20);
        Check.is("512 calls: ran off", square.count(9), 510 * 11520);
    }

    // "a stall has got those that fell on the ground of its cell since it is there"

    private static void stallGetsWhatFellSinceItIsThere() {
        MarketAwnings square = new MarketAwnings();
        square.rain(20);
        square.stall(0, 0);
        Check.is("stall: none at first", square.told(0, 2), 0);
        Check.isDouble("stall: none at first in the mean", square.mean(), 0.0);
        square.rain(1);
        square.stall(23, 23);
        Check.is("stall: one drop", square.told(0, 2), 1);
        Check.is("stall: none at first, the second", square.told(1, 2), 0);
        square.rain(20);
        Check.is("stall: from both hours", square.told(0, 2), 21);
        Check.is("stall: from the last hour", square.told(1, 2), 20);
        Check.is("stall: the ground has all of them", square.cell(23, 23, 2), 41);
    }

    private static void stallGetsNothingUnderAnAwning() {
        MarketAwnings square = new MarketAwnings();
        square.hang(5, 5, 2, 2, 1, DOWN);
        int[][] cells = {{5, 5}, {6, 6}, {5, 7}, {6, 7}, {7, 7}, {4, 7}, {5, 4}, {7, 5}};
        int[] due = {0, 0, 9, 9, 3, 3, 3, 3};
        for (int[] c : cells) {
            square.stall(c[0], c[1]);
        }
        square.rain(3);
        for (int i = 0; i < due.length; i++) {
            Check.is("stall: at " + cells[i][0] + ", " + cells[i][1], square.told(i, 2), due[i]);
        }
        Check.is("stall: not covered", square.count(10), 6);
    }

    // "Throws IndexOutOfBoundsException if there is no such stall" (would)

    private static void wouldKnowsTheFirstAndTheLast() {
        for (int many = 0; many <= 8; many++) {
            MarketAwnings square = Squares.of(2, many);
            for (int wrong : new int[] {-1, many, many + 1, 8, MIN, MAX}) {
                Check.refuses(square, "would: " + wrong + " of " + many, INDEX, () -> square.would(wrong, 1));
            }
            if (many > 0) {
                Check.is("would: the first of " + many, square.would(0, 13), 13);
                Check.is("would: the last of " + many, square.would(many - 1, 13), 13);
            }
        }
    }

    // "Throws IllegalArgumentException if drops is not 1 to 20" (would)

    private static void wouldDropsAre1To20() {
        MarketAwnings square = Squares.of(3, 8);
        for (int wrong : new int[] {0, 21, -1, -20, MIN, MAX, MIN + 1, MAX - 1}) {
            Check.refuses(square, "would: drops " + wrong, ARGUMENT, () -> square.would(7, wrong));
        }
        for (int drops = 1; drops <= 20; drops++) {
            Check.is("would: drops " + drops, square.would(7, drops), drops);
        }
    }

    private static void wouldFirstNamedExceptionFirst() {
        for (int many : new int[] {0, 1, 8}) {
            MarketAwnings square = Squares.of(1, many);
            for (int wrong : new int[] {0, 21, MIN, MAX}) {
                Check.refuses(square, "would: stall before drops", INDEX, () -> square.would(many, wrong));
                Check.refuses(square, "would: stall before drops", INDEX, () -> square.would(-1, wrong));
            }
        }
    }

    // "Returns how many drops it would get in one hour of such rain (nothing is changed)."

    private static void wouldTellsWhatRainBrings() {
        int[] due = {0, 0, 1, 2, 3, 1, 0, 2};
        int[][] cells = {{0, 5}, {5, 5}, {9, 0}, {0, 6}, {6, 4}, {23, 23}, {6, 5}, {2, 6}};
        for (int drops = 1; drops <= 20; drops++) {
            MarketAwnings square = new MarketAwnings();
            square.hang(0, 5, 3, 1, 2, DOWN);
            square.hang(5, 5, 2, 2, 7, UP);
            for (int i = 0; i < 8; i++) {
                square.stall(cells[i][0], cells[i][1]);
            }
            for (int i = 0; i < 8; i++) {
                Check.is("would: stall " + i + ", drops " + drops, square.would(i, drops), due[i] * drops);
            }
            square.rain(drops);
            for (int i = 0; i < 8; i++) {
                Check.is("would: as it came, stall " + i, square.told(i, 2), due[i] * drops);
                Check.is("would: it does not add up, stall " + i, square.would(i, drops), due[i] * drops);
            }
        }
    }

    private static void wouldChangesNothing() {
        MarketAwnings square = Squares.of(10, 8);
        square.rain(20);
        long before = square.digest();
        double meanBefore = square.mean();
        for (int i = 0; i < 8; i++) {
            square.would(i, 1);
            square.would(i, 20);
        }
        Check.is("would: changes nothing", square.digest(), before);
        Check.isDouble("would: changes no mean", square.mean(), meanBefore);
        Check.is("would: no hour of it", square.count(7), 1);
        Check.is("would: the next hour as the one before", square.rain(20), 11520 - 20);
    }
}
