/** Promises 1 to 5 at their bounds: each sentence that names a boundary case has a test of its own here. */
public final class AwningBoundsTest {
    private static final Class<?> ARGUMENT = Squares.ARGUMENT;
    private static final Class<?> INDEX = Squares.INDEX;
    private static final Class<?> STATE = Squares.STATE;
    private static final int MIN = Squares.MIN;
    private static final int MAX = Squares.MAX;
    private static final int LEFT = Squares.LEFT;
    private static final int UP = Squares.UP;
    private static final int RIGHT = Squares.RIGHT;
    private static final int DOWN = Squares.DOWN;

    public static void main(String[] args) {
        newObjectCountsNothing();
        newObjectHasNoAwningAndNoStall();
        newObjectIsDryAndOpenInEachCell();
        newObjectAnswersWhatWouldBe();
        newObjectsShareNothing();
        hangWideIs1To24();
        hangHighIs1To24();
        hangLevelIs1To9();
        hangSideIs0To3();
        hangColumnsInTheSquareForEachWidth();
        hangRowsInTheSquareForEachHeight();
        hangPlacesThatWrapAround();
        hangCoversItsCellsAndNoOther();
        hangIsOutAndDryAtFirst();
        hangTellsTheNumber();
        hangAtMostTen();
        hangFullCountsThoseThatAreIn();
        hangFullHasRoomAfterTake();
        hangFirstNamedExceptionFirst();
        rollKnowsTheFirstAndTheLast();
        rollTellsWhetherOutThen();
        rollChangesThatOneAlone();
        rollAllInCoversNothing();
        moveKnowsTheFirstAndTheLast();
        moveFirstAndLastPlaceForEachWidth();
        moveFirstAndLastPlaceForEachHeight();
        moveTheWholeSquareHasOnePlace();
        movePlacesThatWrapAround();
        moveTellsCoveredCells();
        moveChangesThatOneAlone();
        takeKnowsTheFirstAndTheLast();
        takeTellsHowManyThereAre();
        takeMovesUpThoseBehind();
        takeMovesUpThoseThatAreIn();
        takeToTheLastCoversNothing();
        Check.end("AwningBoundsTest");
    }

    // "Creates a square without awnings and stalls, all dry."

    private static void newObjectCountsNothing() {
        MarketAwnings square = new MarketAwnings();
        for (int what = 0; what <= 10; what++) {
            Check.is("new: count(" + what + ")", square.count(what), 0);
        }
    }

    private static void newObjectHasNoAwningAndNoStall() {
        MarketAwnings square = new MarketAwnings();
        Check.refuses(square, "new: roll(0)", INDEX, () -> square.roll(0));
        Check.refuses(square, "new: move(0, 0, 0)", INDEX, () -> square.move(0, 0, 0));
        Check.refuses(square, "new: take(0)", INDEX, () -> square.take(0));
        Check.refuses(square, "new: about(0, 0)", INDEX, () -> square.about(0, 0));
        Check.refuses(square, "new: share(0, 0)", INDEX, () -> square.share(0, 0));
        Check.refuses(square, "new: told(0, 0)", INDEX, () -> square.told(0, 0));
        Check.refuses(square, "new: would(0, 1)", INDEX, () -> square.would(0, 1));
    }

    private static void newObjectIsDryAndOpenInEachCell() {
        for (int x = 0; x < 24; x++) {
            MarketAwnings square = new MarketAwnings();
            for (int what = 0; what <= 3; what++) {
                Check.is("new: cord(" + x + ", " + what + ")", square.cord(x, what), 0);
            }
            for (int y = 0; y < 24; y++) {
                Check.is("new: layers", square.cell(x, y, 0), 0);
                Check.is("new: highest", square.cell(x, y, 1), -1);
                Check.is("new: ground", square.cell(x, y, 2), 0);
            }
        }
    }

    private static void newObjectAnswersWhatWouldBe() {
        MarketAwnings square = new MarketAwnings();
        Check.is("new: advise()", square.advise(), -1);
        Check.isDouble("new: mean()", square.mean(), 0.0);
        Check.is("new: best(24, 24, 2)", square.best(24, 24, 2), 576);
        Check.is("new: best(1, 1, 2)", square.best(1, 1, 2), 1);
        Check.is("new: rain(20)", square.rain(20), 11520);
    }

    private static void newObjectsShareNothing() {
        MarketAwnings one = new MarketAwnings();
        MarketAwnings other = new MarketAwnings();
        long before = new MarketAwnings().digest();
        one.hang(0, 0, 24, 24, 9, LEFT);
        one.stall(5, 5);
        one.roll(0);
        one.rain(20);
        Check.is("new: another made before", other.digest(), before);
        Check.is("new: another made after", new MarketAwnings().digest(), before);
    }

    // "Throws IllegalArgumentException if w or h is not 1 to 24, level is not 1 to 9, or side is not 0 to 3"

    private static void hangWideIs1To24() {
        MarketAwnings square = new MarketAwnings();
        Check.is("hang: w 1", square.hang(0, 0, 1, 1, 1, 0), 0);
        Check.is("hang: w 24", square.hang(0, 0, 24, 1, 1, 0), 1);
        for (int wrong : new int[] {0, 25, -1, -24, MIN, MAX, MIN + 1, MAX - 1}) {
            Check.refuses(square, "hang: w " + wrong, ARGUMENT, () -> square.hang(0, 0, wrong, 1, 1, 0));
        }
        Check.is("hang: the first, wide", square.about(0, 2), 1);
        Check.is("hang: the last, wide", square.about(1, 2), 24);
    }

    private static void hangHighIs1To24() {
        MarketAwnings square = new MarketAwnings();
        Check.is("hang: h 1", square.hang(0, 0, 1, 1, 1, 0), 0);
        Check.is("hang: h 24", square.hang(0, 0, 1, 24, 1, 0), 1);
        for (int wrong : new int[] {0, 25, -1, -24, MIN, MAX, MIN + 1, MAX - 1}) {
            Check.refuses(square, "hang: h " + wrong, ARGUMENT, () -> square.hang(0, 0, 1, wrong, 1, 0));
        }
        Check.is("hang: the first, high", square.about(0, 3), 1);
        Check.is("hang: the last, high", square.about(1, 3), 24);
    }

    private static void hangLevelIs1To9() {
        MarketAwnings square = new MarketAwnings();
        for (int level = 1; level <= 9; level++) {
            Check.is("hang: level " + level, square.hang(0, 0, 1, 1, level, 0), level - 1);
            Check.is("hang: its level " + level, square.about(level - 1, 4), level);
        }
        for (int wrong : new int[] {0, 10, -1, -9, MIN, MAX}) {
            Check.refuses(square, "hang: level " + wrong, ARGUMENT, () -> square.hang(0, 0, 1, 1, wrong, 0));
        }
    }

    private static void hangSideIs0To3() {
        MarketAwnings square = new MarketAwnings();
        for (int side = 0; side <= 3; side++) {
            Check.is("hang: side " + side, square.hang(0, 0, 1, 1, 1, side), side);
            Check.is("hang: its side " + side, square.about(side, 5), side);
        }
        for (int wrong : new int[] {-1, 4, -3, 7, MIN, MAX}) {
            Check.refuses(square, "hang: side " + wrong, ARGUMENT, () -> square.hang(0, 0, 1, 1, 1, wrong));
        }
    }

    // "Throws IndexOutOfBoundsException if some cell of it is not in the square"

    private static void hangColumnsInTheSquareForEachWidth() {
        for (int w = 1; w <= 24; w++) {
            int wide = w;
            MarketAwnings square = new MarketAwnings();
            Check.is("hang: first column, w " + w, square.hang(0, 5, w, 1, 1, 0), 0);
            Check.is("hang: last column, w " + w, square.hang(24 - w, 6, w, 1, 1, 0), 1);
            Check.is("hang: last column told, w " + w, square.about(1, 0), 24 - w);
            Check.is("hang: covers column 0, w " + w, square.cell(0, 5, 1), 0);
            Check.is("hang: covers column 23, w " + w, square.cell(23, 6, 1), 1);
            for (int wrong : new int[] {-1, 25 - w, -w, 24, 23 + w, MIN, MAX}) {
                Check.refuses(square, "hang: x " + wrong + ", w " + w, INDEX, () -> square.hang(wrong, 5, wide, 1, 1, 0));
            }
        }
    }

    private static void hangRowsInTheSquareForEachHeight() {
        for (int h = 1; h <= 24; h++) {
            int high = h;
            MarketAwnings square = new MarketAwnings();
            Check.is("hang: first row, h " + h, square.hang(5, 0, 1, h, 1, 0), 0);
            Check.is("hang: last row, h " + h, square.hang(6, 24 - h, 1, h, 1, 0), 1);
            Check.is("hang: last row told, h " + h, square.about(1, 1), 24 - h);
            Check.is("hang: covers row 0, h " + h, square.cell(5, 0, 1), 0);
            Check.is("hang: covers row 23, h " + h, square.cell(6, 23, 1), 1);
            for (int wrong : new int[] {-1, 25 - h, -h, 24, 23 + h, MIN, MAX}) {
                Check.refuses(square, "hang: y " + wrong + ", h " + h, INDEX, () -> square.hang(5, wrong, 1, high, 1, 0));
            }
        }
    }

    private static void hangPlacesThatWrapAround() {
        MarketAwnings square = new MarketAwnings();
        for (int extent : new int[] {1, 2, 23, 24}) {
            for (int wrong : new int[] {MAX, MAX - 1, MAX - extent, MAX - extent + 1, MAX - extent + 2, MIN, MIN + 1}) {
                Check.refuses(square, "hang: x " + wrong, INDEX, () -> square.hang(wrong, 0, extent, 1, 1, 0));
                Check.refuses(square, "hang: y " + wrong, INDEX, () -> square.hang(0, wrong, 1, extent, 1, 0));
            }
        }
    }

    // "each lies over a rectangle of cells, from the column x and the row y on, w columns wide and h rows high"

    private static void hangCoversItsCellsAndNoOther() {
        int[][] places = {{0, 0, 1, 1}, {23, 0, 1, 1}, {0, 23, 1, 1}, {23, 23, 1, 1}, {0, 0, 24, 24},
            {0, 11, 24, 1}, {11, 0, 1, 24}, {1, 1, 22, 22}, {7, 3, 5, 9}};
        for (int[] p : places) {
            for (int x = 0; x < 24; x++) {
                MarketAwnings square = new MarketAwnings();
                square.hang(p[0], p[1], p[2], p[3], 4, DOWN);
                for (int y = 0; y < 24; y++) {
                    boolean within = x >= p[0] && x < p[0] + p[2] && y >= p[1] && y < p[1] + p[3];
                    String name = "hang: (" + p[0] + ", " + p[1] + ") " + p[2] + " by " + p[3] + " over " + x + ", " + y;
                    Check.is(name, square.cell(x, y, 0), within ? 1 : 0);
                    Check.is(name + ", highest", square.cell(x, y, 1), within ? 0 : -1);
                }
                Check.is("hang: covered", square.count(3), p[2] * p[3]);
            }
        }
    }

    // "is out (at first), or rolled in"

    private static void hangIsOutAndDryAtFirst() {
        MarketAwnings square = Squares.of(2, 0);
        square.roll(0);
        square.roll(1);
        square.rain(20);
        int number = square.hang(0, 0, 1, 1, 1, 0);
        Check.is("hang: out at first", square.about(number, 6), 1);
        Check.is("hang: no drops at first", square.about(number, 8), 0);
        Check.is("hang: the one that is out", square.count(1), 1);
    }

    // "Returns the number of the new awning." "At most 10 stand in a row, numbered from 0 in it"

    private static void hangTellsTheNumber() {
        MarketAwnings square = new MarketAwnings();
        for (int i = 0; i < 10; i++) {
            Check.is("hang: number " + i, square.hang(23 - i, i, 1, 1, 1, 0), i);
            Check.is("hang: is that one", square.about(i, 0), 23 - i);
        }
        square.take(9);
        square.take(0);
        Check.is("hang: the number is the end of the row", square.hang(0, 0, 1, 1, 1, 0), 8);
    }

    // "Throws IllegalStateException if there are 10"

    private static void hangAtMostTen() {
        MarketAwnings square = Squares.of(9, 0);
        Check.is("hang: the tenth", square.hang(0, 0, 1, 1, 1, 0), 9);
        Check.refuses(square, "hang: the eleventh", STATE, () -> square.hang(0, 0, 1, 1, 1, 0));
        Check.refuses(square, "hang: the eleventh, over all", STATE, () -> square.hang(0, 0, 24, 24, 9, 3));
        Check.refuses(square, "hang: the eleventh, at the last place", STATE, () -> square.hang(23, 23, 1, 1, 9, 3));
        Check.is("hang: there are ten", square.count(0), 10);
    }

    private static void hangFullCountsThoseThatAreIn() {
        MarketAwnings square = Squares.of(10, 0);
        Squares.rollAll(square);
        Check.is("hang: all are in", square.count(1), 0);
        Check.refuses(square, "hang: ten are in", STATE, () -> square.hang(0, 0, 1, 1, 1, 0));
    }

    private static void hangFullHasRoomAfterTake() {
        MarketAwnings square = Squares.of(10, 0);
        for (int i = 0; i < 10; i++) {
            Check.refuses(square, "hang: full", STATE, () -> square.hang(0, 0, 1, 1, 1, 0));
            Check.is("hang: one taken", square.take(i), 9);
            Check.is("hang: there is room", square.hang(i, 9, 2, 2, 3, 1), 9);
        }
        Check.refuses(square, "hang: full again", STATE, () -> square.hang(0, 0, 1, 1, 1, 0));
    }

    // "If several exceptions apply, the one that is named first is thrown."

    private static void hangFirstNamedExceptionFirst() {
        MarketAwnings room = Squares.of(9, 0);
        MarketAwnings full = Squares.of(10, 0);
        for (MarketAwnings square : new MarketAwnings[] {room, full}) {
            Check.refuses(square, "hang: w before x", ARGUMENT, () -> square.hang(24, 0, 0, 1, 1, 0));
            Check.refuses(square, "hang: w is what is out of the square", ARGUMENT, () -> square.hang(0, 0, 25, 1, 1, 0));
            Check.refuses(square, "hang: h before y", ARGUMENT, () -> square.hang(0, -1, 1, 25, 1, 0));
            Check.refuses(square, "hang: level before x", ARGUMENT, () -> square.hang(MIN, 0, 1, 1, 0, 0));
            Check.refuses(square, "hang: level before y", ARGUMENT, () -> square.hang(0, 24, 1, 1, 10, 0));
            Check.refuses(square, "hang: side before x", ARGUMENT, () -> square.hang(MAX, 0, 1, 1, 1, 4));
            Check.refuses(square, "hang: side before y", ARGUMENT, () -> square.hang(0, MAX, 1, 1, 1, -1));
            Check.refuses(square, "hang: all wrong", ARGUMENT, () -> square.hang(-1, -1, 0, 0, 0, -1));
        }
        Check.refuses(full, "hang: w before ten", ARGUMENT, () -> full.hang(0, 0, 25, 1, 1, 0));
        Check.refuses(full, "hang: h before ten", ARGUMENT, () -> full.hang(0, 0, 1, 0, 1, 0));
        Check.refuses(full, "hang: level before ten", ARGUMENT, () -> full.hang(0, 0, 1, 1, 10, 0));
        Check.refuses(full, "hang: side before ten", ARGUMENT, () -> full.hang(0, 0, 1, 1, 1, 4));
        Check.refuses(full, "hang: x before ten", INDEX, () -> full.hang(24, 0, 1, 1, 1, 0));
        Check.refuses(full, "hang: y before ten", INDEX, () -> full.hang(0, -1, 1, 1, 1, 0));
    }

    // "Throws IndexOutOfBoundsException if there is no such awning" (roll)

    private static void rollKnowsTheFirstAndTheLast() {
        for (int many = 0; many <= 10; many++) {
            MarketAwnings square = Squares.of(many, 3);
            for (int wrong : new int[] {-1, many, many + 1, 10, MIN, MAX}) {
                Check.refuses(square, "roll: " + wrong + " of " + many, INDEX, () -> square.roll(wrong));
            }
            if (many > 0) {
                Check.is("roll: the first of " + many, square.roll(0), false);
                Check.is("roll: the last of " + many, square.roll(many - 1), many == 1);
            }
        }
    }

    // "Rolls an awning in, or out, if it is in." "Returns whether it is out then."

    private static void rollTellsWhetherOutThen() {
        MarketAwnings square = Squares.of(10, 0);
        for (int i = 0; i < 10; i++) {
            for (int times = 1; times <= 5; times++) {
                boolean due = times % 2 == 0;
                Check.is("roll: " + i + ", " + times + " times", square.roll(i), due);
                Check.is("roll: told", square.about(i, 6), due ? 1 : 0);
                Check.is("roll: counted", square.count(1), due ? 10 - i : 9 - i);
            }
        }
    }

    private static void rollChangesThatOneAlone() {
        for (int rolled = 0; rolled < 10; rolled++) {
            MarketAwnings square = Squares.of(10, 0);
            square.rain(2);
            square.roll(rolled);
            for (int i = 0; i < 10; i++) {
                Check.is("roll: out " + i, square.about(i, 6), i == rolled ? 0 : 1);
                Check.is("roll: column " + i, square.about(i, 0), 2 * i);
                Check.is("roll: level " + i, square.about(i, 4), 1 + i % 9);
                Check.is("roll: drops stay " + i, square.about(i, 8), 2);
                Check.is("roll: covers " + i, square.cell(2 * i, 2, 0), i == rolled ? 0 : 1);
            }
            Check.is("roll: there are as many", square.count(0), 10);
        }
    }

    // "Only those that are out cover cells."

    private static void rollAllInCoversNothing() {
        MarketAwnings square = Squares.whole(DOWN);
        for (int i = 0; i < 9; i++) {
            square.hang(i, i, 9, 9, 9, LEFT);
        }
        square.stall(4, 4);
        Squares.rollAll(square);
        int[] due = {10, 0, 1, 0, 0, 0, 0, 0, 0, 0, 1};
        for (int what = 0; what <= 10; what++) {
            Check.is("all in: count(" + what + ")", square.count(what), due[what]);
        }
        for (int i = 0; i < 10; i++) {
            Check.is("all in: alone", square.about(i, 7), 0);
            Check.is("all in: share", square.share(i, 0), 0);
        }
        for (int what = 0; what <= 3; what++) {
            Check.is("all in: cord(8, " + what + ")", square.cord(8, what), 0);
        }
        Check.is("all in: layers", square.cell(8, 8, 0), 0);
        Check.is("all in: highest", square.cell(8, 8, 1), -1);
        Check.is("all in: over the stall", square.told(0, 3), 0);
        Check.is("all in: advise", square.advise(), -1);
        Check.is("all in: best", square.best(24, 24, 2), 576);
        Check.is("all in: would", square.would(0, 20), 20);
        Check.is("all in: rain", square.rain(20), 11520);
        Check.is("all in: nothing goes over a side", square.about(0, 8), 0);
    }

    // "Throws IndexOutOfBoundsException if there is no such awning, or some cell of it would not be in the square"

    private static void moveKnowsTheFirstAndTheLast() {
        for (int many = 0; many <= 10; many++) {
            MarketAwnings square = Squares.of(many, 3);
            for (int wrong : new int[] {-1, many, many + 1, 10, MIN, MAX}) {
                Check.refuses(square, "move: " + wrong + " of " + many, INDEX, () -> square.move(wrong, 0, 0));
                Check.refuses(square, "move: both wrong, of " + many, INDEX, () -> square.move(wrong, 24, -1));
            }
            if (many > 0) {
                Check.is("move: the first of " + many, square.move(0, 0, 23), many);
                Check.is("move: the last of " + many, square.move(many - 1, 23, 0), many);
            }
        }
    }

    private static void moveFirstAndLastPlaceForEachWidth() {
        for (int w = 1; w <= 24; w++) {
            MarketAwnings square = new MarketAwnings();
            square.hang(0, 7, w, 1, 1, 0);
            Check.is("move: to the last column, w " + w, square.move(0, 24 - w, 7), w);
            Check.is("move: covers column 23, w " + w, square.cell(23, 7, 0), 1);
            Check.is("move: stays in column " + (24 - w), square.about(0, 0), 24 - w);
            for (int wrong : new int[] {-1, 25 - w, -w, 24, MIN, MAX}) {
                Check.refuses(square, "move: x " + wrong + ", w " + w, INDEX, () -> square.move(0, wrong, 8));
            }
            Check.is("move: to the first column, w " + w, square.move(0, 0, 7), w);
            Check.is("move: covers column 0, w " + w, square.cell(0, 7, 0), 1);
        }
    }

    private static void moveFirstAndLastPlaceForEachHeight() {
        for (int h = 1; h <= 24; h++) {
            MarketAwnings square = new MarketAwnings();
            square.hang(7, 0, 1, h, 1, 0);
            Check.is("move: to the last row, h " + h, square.move(0, 7, 24 - h), h);
            Check.is("move: covers row 23, h " + h, square.cell(7, 23, 0), 1);
            Check.is("move: stays in row " + (24 - h), square.about(0, 1), 24 - h);
            for (int wrong : new int[] {-1, 25 - h, -h, 24, MIN, MAX}) {
                Check.refuses(square, "move: y " + wrong + ", h " + h, INDEX, () -> square.move(0, 8, wrong));
            }
            Check.is("move: to the first row, h " + h, square.move(0, 7, 0), h);
            Check.is("move: covers row 0, h " + h, square.cell(7, 0, 0), 1);
        }
    }

    private static void moveTheWholeSquareHasOnePlace() {
        MarketAwnings square = Squares.whole(UP);
        Check.is("move: the whole square to its place", square.move(0, 0, 0), 576);
        Check.refuses(square, "move: one to the right", INDEX, () -> square.move(0, 1, 0));
        Check.refuses(square, "move: one down", INDEX, () -> square.move(0, 0, 1));
        Check.refuses(square, "move: one to the left", INDEX, () -> square.move(0, -1, 0));
        Check.refuses(square, "move: one up", INDEX, () -> square.move(0, 0, -1));
        square.roll(0);
        Check.refuses(square, "move: one that is in, too", INDEX, () -> square.move(0, 1, 1));
    }

    private static void movePlacesThatWrapAround() {
        for (int extent : new int[] {1, 2, 23, 24}) {
            MarketAwnings square = new MarketAwnings();
            square.hang(0, 0, extent, extent, 1, 0);
            for (int wrong : new int[] {MAX, MAX - 1, MAX - extent, MAX - extent + 1, MAX - extent + 2, MIN, MIN + 1}) {
                Check.refuses(square, "move: x " + wrong, INDEX, () -> square.move(0, wrong, 0));
                Check.refuses(square, "move: y " + wrong, INDEX, () -> square.move(0, 0, wrong));
            }
        }
    }

    // "Returns how many cells are covered then."

    private static void moveTellsCoveredCells() {
        MarketAwnings square = new MarketAwnings();
        square.hang(0, 0, 3, 3, 1, LEFT);
        Check.is("move: the only one, to where it is", square.move(0, 0, 0), 9);
        square.hang(10, 10, 3, 3, 1, LEFT);
        Check.is("move: apart", square.move(0, 7, 10), 18);
        Check.is("move: one column over the other one", square.move(0, 8, 10), 15);
        Check.is("move: one cell over the other one", square.move(0, 12, 12), 17);
        Check.is("move: onto the other one", square.move(0, 10, 10), 9);
        square.roll(0);
        Check.is("move: one that is in covers none", square.move(0, 20, 20), 9);
        Check.is("move: the other one, past it", square.move(1, 20, 20), 9);
        square.roll(1);
        Check.is("move: none is out", square.move(1, 0, 0), 0);
        square.hang(0, 0, 24, 24, 1, LEFT);
        Check.is("move: all is covered", square.move(1, 5, 5), 576);
    }

    private static void moveChangesThatOneAlone() {
        for (int moved = 0; moved < 10; moved++) {
            MarketAwnings square = Squares.of(10, 0);
            square.rain(3);
            square.roll(moved);
            square.move(moved, 23, 21);
            for (int i = 0; i < 10; i++) {
                int[] due = {2 * i, 2, 1, 1, 1 + i % 9, i % 4, 1, 1, 3};
                if (i == moved) {
                    due = new int[] {23, 21, 1, 1, 1 + i % 9, i % 4, 0, 0, 3};
                }
                for (int what = 0; what <= 8; what++) {
                    Check.is("move: " + moved + ", about(" + i + ", " + what + ")", square.about(i, what), due[what]);
                }
            }
        }
    }

    // "Throws IndexOutOfBoundsException if there is no such awning" (take)

    private static void takeKnowsTheFirstAndTheLast() {
        for (int many = 0; many <= 10; many++) {
            MarketAwnings square = Squares.of(many, 3);
            for (int wrong : new int[] {-1, many, many + 1, 10, MIN, MAX}) {
                Check.refuses(square, "take: " + wrong + " of " + many, INDEX, () -> square.take(wrong));
            }
            if (many > 1) {
                Check.is("take: the last of " + many, square.take(many - 1), many - 1);
                Check.is("take: the first of " + many, square.take(0), many - 2);
            }
        }
    }

    // "Returns how many there are then."

    private static void takeTellsHowManyThereAre() {
        MarketAwnings square = Squares.of(10, 0);
        for (int due = 9; due >= 0; due--) {
            Check.is("take: down to " + due, square.take(due / 2), due);
            Check.is("take: counted", square.count(0), due);
        }
        Check.refuses(square, "take: there is none", INDEX, () -> square.take(0));
        Check.is("take: and then one again", square.hang(0, 0, 1, 1, 1, 0), 0);
    }

    // "Takes an awning down; those behind it move up."

    private static void takeMovesUpThoseBehind() {
        for (int taken = 0; taken < 10; taken++) {
            MarketAwnings square = Squares.of(10, 0);
            square.rain(4);
            square.take(taken);
            for (int i = 0; i < 9; i++) {
                int was = i < taken ? i : i + 1;
                int[] due = {2 * was, 2, 1, 1, 1 + was % 9, was % 4, 1, 1, 4};
                for (int what = 0; what <= 8; what++) {
                    Check.is("take: " + taken + ", about(" + i + ", " + what + ")", square.about(i, what), due[what]);
                }
                Check.is("take: highest over its cell", square.cell(2 * was, 2, 1), i);
            }
            Check.is("take: nothing over the cell of the one taken", square.cell(2 * taken, 2, 1), -1);
            Check.refuses(square, "take: there is no tenth", INDEX, () -> square.about(9, 0));
        }
    }

    private static void takeMovesUpThoseThatAreIn() {
        MarketAwnings square = Squares.of(3, 0);
        square.roll(1);
        Check.is("take: one before one that is in", square.take(0), 2);
        Check.is("take: the one that is in moved up", square.about(0, 6), 0);
        Check.is("take: the one that is out moved up", square.about(1, 6), 1);
        Check.is("take: one that is in", square.take(0), 1);
        Check.is("take: the other one is out", square.about(0, 6), 1);
        Check.is("take: and is that one", square.about(0, 0), 4);
    }

    private static void takeToTheLastCoversNothing() {
        MarketAwnings square = Squares.whole(RIGHT);
        square.rain(1);
        Check.is("take: the only one", square.take(0), 0);
        int[] due = {0, 0, 0, 0, 0, 0, 0, 1, 0, 576, 0};
        for (int what = 0; what <= 10; what++) {
            Check.is("take: count(" + what + ")", square.count(what), due[what]);
        }
        Check.is("take: best", square.best(24, 24, 2), 576);
        Check.is("take: advise", square.advise(), -1);
        Check.is("take: rain", square.rain(1), 576);
    }
}
