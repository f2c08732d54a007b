/** One method or more for each promise: ordinary inputs, the edges, and wrong inputs. */
public final class PromisesTest {
    private static final Class<?> ARGUMENT = IllegalArgumentException.class;
    private static final Class<?> INDEX = IndexOutOfBoundsException.class;
    private static final Class<?> STATE = IllegalStateException.class;
    private static final int LEFT = 0;
    private static final int UP = 1;
    private static final int RIGHT = 2;
    private static final int DOWN = 3;
    private static final int MIN = Integer.MIN_VALUE;
    private static final int MAX = Integer.MAX_VALUE;

    public static void main(String[] args) {
        newObject();
        hangOrdinary();
        hangEdges();
        hangWrong();
        hangFull();
        roll();
        move();
        take();
        stall();
        stallsFull();
        rainOnGround();
        rainDripsOverEachSide();
        rainRunsOff();
        rainRemainderGoesToTheFirst();
        rainFallsOnSmallerLevelsOnly();
        rainTakesTheHighestBelow();
        rainAddsUp();
        rainWrong();
        about();
        cell();
        cord();
        told();
        share();
        countCells();
        countOutlineAndParts();
        countRainAndStalls();
        would();
        best();
        advise();
        mean();
        digestOfNew();
        digestOrder();
        Check.end("PromisesTest");
    }

    private static void newObject() {
        MarketAwnings square = new MarketAwnings();
        for (int what = 0; what <= 10; what++) {
            Check.is("new: count(" + what + ")", square.count(what), 0);
        }
        for (int y = 0; y < 24; y++) {
            Check.is("new: cell(x, " + y + ", 0)", square.cell(23 - y, y, 0), 0);
            Check.is("new: cell(x, " + y + ", 1)", square.cell(23 - y, y, 1), -1);
            Check.is("new: cell(x, " + y + ", 2)", square.cell(23 - y, y, 2), 0);
        }
        Check.is("new: advise()", square.advise(), -1);
        Check.isDouble("new: mean()", square.mean(), 0.0);
        MarketAwnings other = new MarketAwnings();
        square.hang(0, 0, 1, 1, 1, 0);
        square.stall(3, 3);
        square.rain(1);
        Check.is("new: nothing shared with another, awnings", other.count(0), 0);
        Check.is("new: nothing shared with another, stalls", other.count(2), 0);
        Check.is("new: nothing shared with another, hours", other.count(7), 0);
        Check.is("new: nothing shared with another, ground", other.cell(9, 9, 2), 0);
    }

    private static void hangOrdinary() {
        MarketAwnings square = new MarketAwnings();
        Check.is("hang: first", square.hang(3, 5, 7, 2, 4, RIGHT), 0);
        Check.is("hang: second", square.hang(3, 5, 7, 2, 4, RIGHT), 1);
        int[] due = {3, 5, 7, 2, 4, 2, 1, 0, 0};
        for (int what = 0; what < due.length; what++) {
            Check.is("hang: about(1, " + what + ")", square.about(1, what), due[what]);
        }
        Check.is("hang: covered", square.count(3), 14);
        Check.is("hang: left of it", square.cell(2, 5, 0), 0);
        Check.is("hang: its first cell", square.cell(3, 5, 0), 2);
        Check.is("hang: its last cell", square.cell(9, 6, 0), 2);
        Check.is("hang: right of it", square.cell(10, 6, 0), 0);
        Check.is("hang: above it", square.cell(3, 4, 0), 0);
        Check.is("hang: below it", square.cell(9, 7, 0), 0);
    }

    private static void hangEdges() {
        MarketAwnings square = new MarketAwnings();
        Check.is("hang: the whole square", square.hang(0, 0, 24, 24, 9, DOWN), 0);
        Check.is("hang: one cell", square.hang(23, 23, 1, 1, 1, LEFT), 1);
        Check.is("hang: right edge", square.hang(20, 0, 4, 1, 1, UP), 2);
        Check.is("hang: lower edge", square.hang(0, 20, 1, 4, 9, RIGHT), 3);
        Check.is("hang: covered", square.count(3), 576);
    }

    private static void hangWrong() {
        MarketAwnings square = new MarketAwnings();
        square.hang(1, 1, 2, 2, 2, 2);
        for (int wrong : new int[] {0, -1, 25, MIN, MAX}) {
            Check.refuses(square, "hang: w " + wrong, ARGUMENT, () -> square.hang(0, 0, wrong, 1, 1, 0));
            Check.refuses(square, "hang: h " + wrong, ARGUMENT, () -> square.hang(0, 0, 1, wrong, 1, 0));
        }
        for (int wrong : new int[] {0, -1, 10, MIN, MAX}) {
            Check.refuses(square, "hang: level " + wrong, ARGUMENT, () -> square.hang(0, 0, 1, 1, wrong, 0));
        }
        for (int wrong : new int[] {-1, 4, MIN, MAX}) {
            Check.refuses(square, "hang: side " + wrong, ARGUMENT, () -> square.hang(0, 0, 1, 1, 1, wrong));
        }
        for (int wrong : new int[] {-1, 22, 24, MIN, MAX, MAX - 1}) {
            Check.refuses(square, "hang: x " + wrong, INDEX, () -> square.hang(wrong, 0, 3, 1, 1, 0));
            Check.refuses(square, "hang: y " + wrong, INDEX, () -> square.hang(0, wrong, 1, 3, 1, 0));
        }
        Check.refuses(square, "hang: argument before index", ARGUMENT, () -> square.hang(-1, 0, 1, 1, 10, 0));
        Check.refuses(square, "hang: argument before index", ARGUMENT, () -> square.hang(24, 24, 1, 1, 1, 4));
    }

    private static void hangFull() {
        MarketAwnings square = new MarketAwnings();
        for (int i = 0; i < 10; i++) {
            Check.is("hang: number " + i, square.hang(i, 0, 1, 1, 1, 0), i);
        }
        Check.refuses(square, "hang: an eleventh", STATE, () -> square.hang(0, 0, 1, 1, 1, 0));
        Check.refuses(square, "hang: index before state", INDEX, () -> square.hang(24, 0, 1, 1, 1, 0));
        Check.refuses(square, "hang: argument before state", ARGUMENT, () -> square.hang(0, 0, 0, 1, 1, 0));
        square.roll(4);
        Check.refuses(square, "hang: one that is in counts", STATE, () -> square.hang(0, 0, 1, 1, 1, 0));
        square.take(4);
        Check.is("hang: after one is taken", square.hang(0, 0, 1, 1, 1, 0), 9);
    }

    private static void roll() {
        MarketAwnings square = new MarketAwnings();
        Check.refuses(square, "roll: none", INDEX, () -> square.roll(0));
        square.hang(0, 0, 2, 3, 5, LEFT);
        square.hang(1, 0, 2, 3, 5, LEFT);
        Check.is("roll: in", square.roll(0), false);
        Check.is("roll: is in", square.about(0, 6), 0);
        Check.is("roll: the other is out", square.about(1, 6), 1);
        Check.is("roll: covered", square.count(3), 6);
        Check.is("roll: out again", square.roll(0), true);
        Check.is("roll: is out", square.about(0, 6), 1);
        Check.is("roll: covered again", square.count(3), 9);
        for (int wrong : new int[] {-1, 2, 10, MIN, MAX}) {
            Check.refuses(square, "roll: " + wrong, INDEX, () -> square.roll(wrong));
        }
        square.roll(0);
        square.rain(1);
        Check.is("roll: no drop goes over one that is in", square.about(0, 8), 0);
        Check.is("roll: its ground gets wet, and by the other one", square.cell(0, 1, 2), 1 + 2);
    }

    private static void move() {
        MarketAwnings square = new MarketAwnings();
        Check.refuses(square, "move: none", INDEX, () -> square.move(0, 0, 0));
        square.hang(0, 0, 5, 3, 5, DOWN);
        square.hang(0, 0, 5, 3, 4, DOWN);
        square.rain(1);
        Check.is("move: covered", square.move(0, 3, 1), 26);
        Check.is("move: x", square.about(0, 0), 3);
        Check.is("move: y", square.about(0, 1), 1);
        Check.is("move: w stays", square.about(0, 2), 5);
        Check.is("move: h stays", square.about(0, 3), 3);
        Check.is("move: drops stay", square.about(0, 8), 15);
        Check.is("move: to the last place", square.move(0, 19, 21), 30);
        Check.is("move: to the first place", square.move(0, 0, 0), 15);
        for (int wrong : new int[] {-1, 20, MIN, MAX, MAX - 3}) {
            Check.refuses(square, "move: x " + wrong, INDEX, () -> square.move(0, wrong, 0));
        }
        for (int wrong : new int[] {-1, 22, MIN, MAX, MAX - 1}) {
            Check.refuses(square, "move: y " + wrong, INDEX, () -> square.move(0, 0, wrong));
        }
        for (int wrong : new int[] {-1, 2, MIN, MAX}) {
            Check.refuses(square, "move: awning " + wrong, INDEX, () -> square.move(wrong, 0, 0));
        }
        square.roll(1);
        Check.is("move: one that is in", square.move(1, 9, 9), 15);
        square.roll(1);
        Check.is("move: and it is there when it is out", square.cell(13, 11, 1), 1);
    }

    private static void take() {
        MarketAwnings square = new MarketAwnings();
        Check.refuses(square, "take: none", INDEX, () -> square.take(0));
        square.hang(0, 0, 1, 1, 1, LEFT);
        square.hang(1, 0, 1, 1, 2, UP);
        square.hang(2, 0, 1, 1, 3, RIGHT);
        square.hang(3, 0, 1, 1, 4, DOWN);
        square.roll(2);
        square.rain(3);
        Check.is("take: the second", square.take(1), 3);
        Check.is("take: before it stays", square.about(0, 4), 1);
        Check.is("take: behind it moves up", square.about(1, 4), 3);
        Check.is("take: and stays in", square.about(1, 6), 0);
        Check.is("take: the last moves up", square.about(2, 4), 4);
        Check.is("take: with its drops", square.about(2, 8), 3);
        Check.is("take: covered", square.count(3), 2);
        for (int wrong : new int[] {-1, 3, MIN, MAX}) {
            Check.refuses(square, "take: " + wrong, INDEX, () -> square.take(wrong));
        }
        Check.is("take: the last", square.take(2), 2);
        Check.is("take: the first", square.take(0), 1);
        Check.is("take: the only one", square.take(0), 0);
        Check.is("take: none covered", square.count(3), 0);
    }

    private static void stall() {
        MarketAwnings square = new MarketAwnings();
        Check.is("stall: first", square.stall(0, 0), 0);
        Check.is("stall: second", square.stall(23, 23), 1);
        Check.is("stall: same column", square.stall(0, 23), 2);
        Check.is("stall: same row", square.stall(1, 0), 3);
        Check.refuses(square, "stall: one is there", STATE, () -> square.stall(23, 23));
        Check.refuses(square, "stall: one is there", STATE, () -> square.stall(0, 0));
        Check.refuses(square, "stall: one is there", STATE, () -> square.stall(1, 0));
        Check.is("stall: a column is no row", square.stall(23, 0), 4);
        for (int wrong : new int[] {-1, 24, MIN, MAX}) {
            Check.refuses(square, "stall: x " + wrong, INDEX, () -> square.stall(wrong, 5));
            Check.refuses(square, "stall: y " + wrong, INDEX, () -> square.stall(5, wrong));
        }
    }

    private static void stallsFull() {
        MarketAwnings square = new MarketAwnings();
        for (int i = 0; i < 8; i++) {
            Check.is("stall: number " + i, square.stall(i, 7), i);
        }
        Check.refuses(square, "stall: a ninth", STATE, () -> square.stall(8, 7));
        Check.refuses(square, "stall: index before state", INDEX, () -> square.stall(24, 7));
    }

    private static void rainOnGround() {
        MarketAwnings square = new MarketAwnings();
        Check.is("rain: on bare ground", square.rain(1), 576);
        Check.is("rain: the most", square.rain(20), 11520);
        Check.is("rain: on each cell", square.cell(0, 0, 2), 21);
        Check.is("rain: on each cell", square.cell(23, 23, 2), 21);
    }

    private static void rainDripsOverEachSide() {
        int[] sides = {LEFT, UP, RIGHT, DOWN};
        // The cells beyond of an awning at (4, 8), 3 wide and 2 high, of which 18 drops go over a side.
        int[] firstX = {3, 4, 7, 4};
        int[] firstY = {8, 7, 8, 10};
        int[] each = {9, 6, 9, 6};
        for (int i = 0; i < sides.length; i++) {
            MarketAwnings square = new MarketAwnings();
            square.hang(4, 8, 3, 2, 5, sides[i]);
            String name = "rain: side " + sides[i];
            Check.is(name, square.rain(3), 1728);
            boolean alongRows = sides[i] == LEFT || sides[i] == RIGHT;
            int cells = alongRows ? 2 : 3;
            for (int k = -1; k <= cells; k++) {
                int x = alongRows ? firstX[i] : firstX[i] + k;
                int y = alongRows ? firstY[i] + k : firstY[i];
                int due = k >= 0 && k < cells ? 3 + each[i] : 3;
                Check.is(name + ", ground " + k, square.cell(x, y, 2), due);
            }
            Check.is(name + ", below it", square.cell(5, 9, 2), 0);
            Check.is(name + ", over its side", square.about(0, 8), 18);
        }
    }

    private static void rainRunsOff() {
        int[][] atEdge = {{0, 10, LEFT}, {10, 0, UP}, {22, 10, RIGHT}, {10, 22, DOWN}};
        for (int[] place : atEdge) {
            MarketAwnings square = new MarketAwnings();
            square.hang(place[0], place[1], 2, 2, 1, place[2]);
            String name = "rain: beyond the edge, side " + place[2];
            Check.is(name, square.rain(5), 576 * 5 - 20);
            Check.is(name + ", ran off", square.count(9), 20);
            Check.is(name + ", on all ground", square.count(8), 576 * 5 - 20);
            Check.is(name + ", over its side", square.about(0, 8), 20);
        }
        MarketAwnings covered = new MarketAwnings();
        covered.hang(0, 0, 24, 24, 5, UP);
        Check.is("rain: all runs off", covered.rain(20), 0);
        Check.is("rain: all ran off", covered.count(9), 11520);
    }

    private static void rainRemainderGoesToTheFirst() {
        MarketAwnings square = new MarketAwnings();
        square.hang(2, 2, 5, 1, 3, DOWN);
        square.hang(10, 10, 1, 4, 3, RIGHT);
        square.hang(2, 1, 3, 1, 9, DOWN);
        // Awning 2 gives 3 to awning 0, which has 8 then: 2 2 2 1 1.
        square.rain(1);
        Check.is("rain: over the side of 0", square.about(0, 8), 8);
        int[] due = {3, 3, 3, 2, 2};
        for (int i = 0; i < due.length; i++) {
            Check.is("rain: remainder, column " + (2 + i), square.cell(2 + i, 3, 2), due[i]);
        }
        MarketAwnings rows = new MarketAwnings();
        rows.hang(10, 10, 1, 4, 3, RIGHT);
        rows.hang(9, 10, 1, 2, 4, RIGHT);
        rows.rain(1);
        // 4 and 2 of the other one: 2 2 1 1.
        int[] dueRows = {3, 3, 2, 2};
        for (int i = 0; i < dueRows.length; i++) {
            Check.is("rain: remainder, row " + (10 + i), rows.cell(11, 10 + i, 2), dueRows[i]);
        }
        Check.is("rain: row by row", square.cell(11, 10, 2), 2);
    }

    private static void rainFallsOnSmallerLevelsOnly() {
        MarketAwnings square = new MarketAwnings();
        square.hang(5, 5, 1, 1, 4, RIGHT);
        square.hang(6, 5, 1, 1, 4, RIGHT);
        square.rain(7);
        Check.is("rain: not on one of the same level", square.cell(6, 5, 2), 7);
        Check.is("rain: its own only", square.about(1, 8), 7);
        MarketAwnings higher = new MarketAwnings();
        higher.hang(5, 5, 1, 1, 4, RIGHT);
        higher.hang(6, 5, 1, 1, 5, RIGHT);
        higher.rain(7);
        Check.is("rain: not on a higher one", higher.cell(6, 5, 2), 7);
        MarketAwnings lower = new MarketAwnings();
        lower.hang(5, 5, 1, 1, 4, RIGHT);
        lower.hang(6, 5, 1, 1, 3, RIGHT);
        lower.hang(7, 5, 1, 1, 2, RIGHT);
        lower.rain(7);
        Check.is("rain: on a lower one", lower.cell(6, 5, 2), 0);
        Check.is("rain: on and on", lower.about(2, 8), 21);
        Check.is("rain: to the ground", lower.cell(8, 5, 2), 28);
        MarketAwnings in = new MarketAwnings();
        in.hang(5, 5, 1, 1, 4, RIGHT);
        in.hang(6, 5, 1, 1, 3, RIGHT);
        in.roll(1);
        in.rain(7);
        Check.is("rain: not on one that is in", in.cell(6, 5, 2), 14);
    }

    private static void rainTakesTheHighestBelow() {
        MarketAwnings square = new MarketAwnings();
        square.hang(6, 5, 1, 1, 2, DOWN);
        square.hang(6, 5, 1, 1, 3, UP);
        square.hang(6, 5, 1, 1, 3, RIGHT);
        square.hang(6, 5, 1, 1, 9, LEFT);
        square.hang(5, 5, 1, 1, 9, RIGHT);
        square.rain(1);
        Check.is("rain: from the sky on the highest", square.about(3, 8), 1);
        Check.is("rain: then on the highest below, of the smallest number", square.about(1, 8), 1);
        Check.is("rain: not on the next of that level", square.about(2, 8), 0);
        Check.is("rain: not on the lowest", square.about(0, 8), 0);
        Check.is("rain: a drop to the left, past the same level", square.cell(5, 5, 2), 1);
        square.roll(1);
        square.rain(1);
        Check.is("rain: the next one, when that is in", square.about(2, 8), 1);
    }

    private static void rainAddsUp() {
        MarketAwnings square = new MarketAwnings();
        square.hang(0, 0, 2, 2, 1, LEFT);
        square.hang(10, 10, 2, 2, 1, LEFT);
        square.rain(1);
        square.rain(2);
        Check.is("rain: hours", square.count(7), 2);
        Check.is("rain: ground of a cell", square.cell(20, 20, 2), 3);
        Check.is("rain: over a side in all", square.about(1, 8), 12);
        Check.is("rain: ran off in all", square.count(9), 12);
        Check.is("rain: on all ground in all", square.count(8), 576 * 3 - 12);
        square.take(0);
        Check.is("rain: ran off stays", square.count(9), 12);
    }

    private static void rainWrong() {
        MarketAwnings square = new MarketAwnings();
        square.hang(3, 3, 3, 3, 3, 3);
        square.stall(4, 4);
        for (int wrong : new int[] {0, -1, 21, MIN, MAX}) {
            Check.refuses(square, "rain: " + wrong, ARGUMENT, () -> square.rain(wrong));
        }
    }

    private static void about() {
        MarketAwnings square = new MarketAwnings();
        Check.refuses(square, "about: none", INDEX, () -> square.about(0, 0));
        square.hang(2, 3, 6, 4, 7, UP);
        square.hang(5, 5, 8, 9, 2, LEFT);
        square.rain(2);
        int[] first = {2, 3, 6, 4, 7, 1, 1, 18, 48};
        int[] second = {5, 5, 8, 9, 2, 0, 1, 66, 132};
        for (int what = 0; what <= 8; what++) {
            Check.is("about(0, " + what + ")", square.about(0, what), first[what]);
            Check.is("about(1, " + what + ")", square.about(1, what), second[what]);
        }
        square.hang(15, 1, 2, 3, 1, LEFT);
        Check.is("about: alone, far to the right", square.about(2, 7), 6);
        square.take(2);
        square.roll(1);
        Check.is("about: one that is in covers none", square.about(1, 7), 0);
        Check.is("about: and takes none of the other one's", square.about(0, 7), 24);
        for (int wrong : new int[] {-1, 9, MIN, MAX}) {
            Check.refuses(square, "about: what " + wrong, INDEX, () -> square.about(0, wrong));
        }
        for (int wrong : new int[] {-1, 2, MIN, MAX}) {
            Check.refuses(square, "about: awning " + wrong, INDEX, () -> square.about(wrong, 0));
        }
    }

    private static void cell() {
        MarketAwnings square = new MarketAwnings();
        square.hang(4, 4, 3, 3, 2, LEFT);
        square.hang(5, 5, 3, 3, 8, LEFT);
        square.hang(5, 5, 1, 1, 8, LEFT);
        Check.is("cell: layers, three", square.cell(5, 5, 0), 3);
        Check.is("cell: layers, two", square.cell(6, 6, 0), 2);
        Check.is("cell: layers, one", square.cell(4, 4, 0), 1);
        Check.is("cell: layers, none", square.cell(3, 4, 0), 0);
        Check.is("cell: highest by level, then number", square.cell(5, 5, 1), 1);
        Check.is("cell: highest, one only", square.cell(4, 4, 1), 0);
        Check.is("cell: highest, none", square.cell(3, 4, 1), -1);
        square.roll(1);
        Check.is("cell: highest, of those that are out", square.cell(5, 5, 1), 2);
        Check.is("cell: layers, of those that are out", square.cell(5, 5, 0), 2);
        square.rain(4);
        Check.is("cell: drops on ground below an awning", square.cell(6, 6, 2), 0);
        Check.is("cell: drops on ground", square.cell(9, 4, 2), 4);
        Check.is("cell: a column is no row", square.cell(4, 9, 0), 0);
        for (int wrong : new int[] {-1, 24, MIN, MAX}) {
            Check.refuses(square, "cell: x " + wrong, INDEX, () -> square.cell(wrong, 0, 0));
            Check.refuses(square, "cell: y " + wrong, INDEX, () -> square.cell(0, wrong, 0));
        }
        for (int wrong : new int[] {-1, 3, MIN, MAX}) {
            Check.refuses(square, "cell: what " + wrong, INDEX, () -> square.cell(0, 0, wrong));
        }
    }

    private static void cord() {
        MarketAwnings square = new MarketAwnings();
        for (int what = 0; what <= 3; what++) {
            Check.is("cord: nothing, " + what, square.cord(23, what), 0);
        }
        square.hang(3, 0, 2, 2, 1, LEFT);
        square.hang(3, 4, 1, 3, 2, LEFT);
        square.hang(2, 7, 2, 1, 3, LEFT);
        square.hang(3, 21, 1, 3, 3, LEFT);
        square.hang(3, 23, 1, 1, 3, LEFT);
        square.hang(3, 23, 1, 1, 4, LEFT);
        int[] due = {9, 3, 4, 3};
        int[] left = {1, 1, 1, 1};
        int[] right = {2, 1, 2, 1};
        for (int what = 0; what <= 3; what++) {
            Check.is("cord(3, " + what + ")", square.cord(3, what), due[what]);
            Check.is("cord(2, " + what + ")", square.cord(2, what), left[what]);
            Check.is("cord(4, " + what + ")", square.cord(4, what), right[what]);
            Check.is("cord(0, " + what + ")", square.cord(0, what), 0);
        }
        square.hang(12, 0, 1, 1, 1, LEFT);
        Check.is("cord: the most, in the first row", square.cord(12, 3), 1);
        square.hang(0, 0, 1, 24, 1, 0);
        Check.is("cord: the longest there can be", square.cord(0, 2), 24);
        Check.is("cord: one run", square.cord(0, 1), 1);
        for (int wrong : new int[] {-1, 24, MIN, MAX}) {
            Check.refuses(square, "cord: column " + wrong, INDEX, () -> square.cord(wrong, 0));
        }
        for (int wrong : new int[] {-1, 4, MIN, MAX}) {
            Check.refuses(square, "cord: what " + wrong, INDEX, () -> square.cord(0, wrong));
        }
    }

    private static void told() {
        MarketAwnings square = new MarketAwnings();
        Check.refuses(square, "told: none", INDEX, () -> square.told(0, 0));
        square.rain(9);
        square.stall(6, 11);
        Check.is("told: column", square.told(0, 0), 6);
        Check.is("told: row", square.told(0, 1), 11);
        Check.is("told: rain before it was there is not its", square.told(0, 2), 0);
        Check.is("told: no awning", square.told(0, 3), 0);
        square.rain(2);
        square.rain(3);
        Check.is("told: drops", square.told(0, 2), 5);
        square.stall(7, 11);
        square.hang(6, 11, 1, 1, 5, RIGHT);
        square.hang(6, 11, 1, 1, 5, RIGHT);
        square.rain(1);
        Check.is("told: covered", square.told(0, 2), 5);
        Check.is("told: beside it", square.told(1, 2), 2);
        Check.is("told: two awnings", square.told(0, 3), 2);
        square.roll(0);
        Check.is("told: one awning", square.told(0, 3), 1);
        for (int wrong : new int[] {-1, 2, MIN, MAX}) {
            Check.refuses(square, "told: stall " + wrong, INDEX, () -> square.told(wrong, 0));
        }
        for (int wrong : new int[] {-1, 4, MIN, MAX}) {
            Check.refuses(square, "told: what " + wrong, INDEX, () -> square.told(0, wrong));
        }
    }

    private static void share() {
        MarketAwnings square = new MarketAwnings();
        Check.refuses(square, "share: none", INDEX, () -> square.share(0, 0));
        square.hang(2, 2, 6, 4, 3, 3);
        square.hang(5, 4, 8, 5, 5, 0);
        square.hang(8, 2, 1, 4, 5, 0);
        square.hang(2, 6, 6, 1, 5, 0);
        square.hang(20, 20, 4, 4, 5, 0);
        square.hang(3, 3, 2, 2, 5, 0);
        Check.is("share(0, 1)", square.share(0, 1), 6);
        Check.is("share(1, 0)", square.share(1, 0), 6);
        Check.is("share: itself", square.share(0, 0), 24);
        Check.is("share: beside it", square.share(0, 2), 0);
        Check.is("share: below it", square.share(0, 3), 0);
        Check.is("share: far in both", square.share(0, 4), 0);
        Check.is("share: within it", square.share(0, 5), 4);
        Check.is("share: within it", square.share(5, 0), 4);
        square.roll(1);
        Check.is("share: one is in", square.share(0, 1), 0);
        Check.is("share: one is in", square.share(1, 0), 0);
        Check.is("share: itself, in", square.share(1, 1), 0);
        for (int wrong : new int[] {-1, 6, MIN, MAX}) {
            Check.refuses(square, "share: a " + wrong, INDEX, () -> square.share(wrong, 0));
            Check.refuses(square, "share: b " + wrong, INDEX, () -> square.share(1, wrong));
        }
    }

    private static void countCells() {
        MarketAwnings square = new MarketAwnings();
        square.hang(0, 0, 4, 4, 1, LEFT);
        square.hang(2, 2, 4, 4, 1, LEFT);
        square.hang(3, 3, 4, 4, 1, LEFT);
        square.hang(9, 9, 1, 1, 1, LEFT);
        square.roll(3);
        square.stall(3, 3);
        Check.is("count: awnings", square.count(0), 4);
        Check.is("count: out", square.count(1), 3);
        Check.is("count: stalls", square.count(2), 1);
        Check.is("count: covered", square.count(3), 35);
        Check.is("count: two or more", square.count(6), 12);
        for (int wrong : new int[] {-1, 11, MIN, MAX}) {
            Check.refuses(square, "count: what " + wrong, INDEX, () -> square.count(wrong));
        }
    }

    private static void countOutlineAndParts() {
        MarketAwnings square = new MarketAwnings();
        square.hang(0, 0, 1, 1, 1, LEFT);
        Check.is("count: outline of a cell in a corner", square.count(4), 4);
        Check.is("count: one part", square.count(5), 1);
        square.hang(1, 1, 1, 1, 1, LEFT);
        Check.is("count: outline over a corner", square.count(4), 8);
        Check.is("count: parts over a corner", square.count(5), 2);
        square.hang(1, 0, 1, 1, 1, LEFT);
        Check.is("count: outline of three", square.count(4), 8);
        Check.is("count: parts become one", square.count(5), 1);
        square.hang(23, 0, 1, 2, 1, LEFT);
        square.hang(0, 1, 1, 1, 9, LEFT);
        Check.is("count: the right edge is not beside the left one", square.count(5), 2);
        square.hang(10, 10, 5, 1, 1, LEFT);
        square.hang(10, 14, 5, 1, 1, LEFT);
        square.hang(10, 10, 1, 5, 1, LEFT);
        square.hang(14, 10, 1, 5, 1, LEFT);
        Check.is("count: outline of a ring, inside too", square.count(4), 8 + 6 + 20 + 12);
        square.hang(12, 12, 1, 1, 1, LEFT);
        Check.is("count: a part within a ring", square.count(5), 4);
        MarketAwnings hook = new MarketAwnings();
        hook.hang(5, 4, 1, 6, 1, LEFT);
        hook.hang(3, 9, 3, 1, 1, LEFT);
        hook.hang(3, 6, 1, 4, 1, LEFT);
        Check.is("count: a part that goes down, to the left, and up", hook.count(5), 1);
        Check.is("count: its outline", hook.count(4), 24);
        MarketAwnings whole = new MarketAwnings();
        whole.hang(0, 0, 24, 24, 1, LEFT);
        Check.is("count: outline of the square", whole.count(4), 96);
        Check.is("count: the square is one part", whole.count(5), 1);
    }

    private static void countRainAndStalls() {
        MarketAwnings square = new MarketAwnings();
        square.hang(0, 5, 2, 2, 1, LEFT);
        square.stall(0, 5);
        square.stall(2, 5);
        square.stall(9, 9);
        Check.is("count: stalls not covered", square.count(10), 2);
        square.rain(3);
        square.would(0, 20);
        Check.is("count: hours", square.count(7), 1);
        Check.is("count: ground", square.count(8), 576 * 3 - 12);
        Check.is("count: ran off", square.count(9), 12);
        square.roll(0);
        Check.is("count: stalls not covered", square.count(10), 3);
    }

    private static void would() {
        MarketAwnings square = new MarketAwnings();
        Check.refuses(square, "would: none, index before argument", INDEX, () -> square.would(0, 0));
        square.hang(2, 2, 5, 2, 3, DOWN);
        square.stall(2, 4);
        square.stall(3, 3);
        square.stall(20, 20);
        square.rain(7);
        long before = square.digest();
        Check.is("would: below its side", square.would(0, 3), 9);
        Check.is("would: covered", square.would(1, 20), 0);
        Check.is("would: on bare ground", square.would(2, 20), 20);
        Check.is("would: the least", square.would(2, 1), 1);
        square.stall(20, 4);
        Check.is("would: a column is no row", square.would(3, 3), 3);
        square.take(0);
        square.hang(20, 2, 1, 2, 3, DOWN);
        Check.is("would: a column is no row", square.would(3, 3), 9);
        square.take(0);
        square.hang(2, 2, 5, 2, 3, DOWN);
        before = square.digest();
        Check.is("would: again the same", square.would(0, 3), 9);
        Check.is("would: changes nothing", square.digest(), before);
        for (int wrong : new int[] {-1, 4, MIN, MAX}) {
            Check.refuses(square, "would: stall " + wrong, INDEX, () -> square.would(wrong, 1));
            Check.refuses(square, "would: index before argument", INDEX, () -> square.would(wrong, 0));
        }
        for (int wrong : new int[] {0, -1, 21, MIN, MAX}) {
            Check.refuses(square, "would: drops " + wrong, ARGUMENT, () -> square.would(0, wrong));
        }
    }

    private static void best() {
        MarketAwnings square = new MarketAwnings();
        bestIs(square, 1, 1, 0, 0, 1);
        bestIs(square, 24, 24, 0, 0, 576);
        square.hang(0, 0, 23, 3, 1, LEFT);
        bestIs(square, 1, 1, 23, 0, 1);
        bestIs(square, 2, 1, 0, 3, 2);
        bestIs(square, 1, 24, 23, 0, 24);
        bestIs(square, 24, 1, 0, 3, 24);
        bestIs(square, 24, 22, 0, 2, 21 * 24 + 1);
        square.hang(0, 3, 24, 19, 1, LEFT);
        bestIs(square, 1, 3, 23, 0, 3);
        bestIs(square, 2, 2, 0, 22, 4);
        long before = square.digest();
        square.hang(0, 0, 24, 24, 9, LEFT);
        bestIs(square, 3, 4, 0, 0, 0);
        square.take(2);
        Check.is("best: changes nothing", square.digest(), before);
        for (int i = 2; i < 10; i++) {
            square.hang(0, 0, 1, 1, 1, LEFT);
        }
        bestIs(square, 1, 1, 23, 0, 1);
        for (int wrong : new int[] {0, -1, 25, MIN, MAX}) {
            Check.refuses(square, "best: w " + wrong, ARGUMENT, () -> square.best(wrong, 1, 0));
            Check.refuses(square, "best: h " + wrong, ARGUMENT, () -> square.best(1, wrong, 0));
            Check.refuses(square, "best: argument before index", ARGUMENT, () -> square.best(1, wrong, 3));
        }
        for (int wrong : new int[] {-1, 3, MIN, MAX}) {
            Check.refuses(square, "best: what " + wrong, INDEX, () -> square.best(1, 1, wrong));
        }
    }

    private static void bestIs(MarketAwnings square, int w, int h, int x, int y, int cells) {
        String name = "best(" + w + ", " + h + ", ";
        Check.is(name + "0)", square.best(w, h, 0), x);
        Check.is(name + "1)", square.best(w, h, 1), y);
        Check.is(name + "2)", square.best(w, h, 2), cells);
    }

    private static void advise() {
        MarketAwnings square = new MarketAwnings();
        Check.is("advise: none", square.advise(), -1);
        square.hang(0, 0, 5, 5, 1, LEFT);
        Check.is("advise: the only one", square.advise(), 0);
        square.hang(10, 10, 2, 2, 1, LEFT);
        Check.is("advise: the smaller one", square.advise(), 1);
        square.hang(20, 20, 2, 2, 1, LEFT);
        Check.is("advise: of several the smallest number", square.advise(), 1);
        square.hang(1, 1, 4, 4, 9, LEFT);
        Check.is("advise: one that covers nothing alone", square.advise(), 3);
        long before = square.digest();
        square.advise();
        Check.is("advise: changes nothing", square.digest(), before);
        square.roll(3);
        Check.is("advise: not one that is in", square.advise(), 1);
        square.roll(0);
        square.roll(1);
        square.roll(2);
        Check.is("advise: none is out", square.advise(), -1);
        MarketAwnings whole = new MarketAwnings();
        whole.hang(0, 0, 24, 24, 1, LEFT);
        Check.is("advise: one over the whole square", whole.advise(), 0);
    }

    private static void mean() {
        MarketAwnings square = new MarketAwnings();
        square.rain(5);
        Check.isDouble("mean: no stall", square.mean(), 0.0);
        square.stall(5, 5);
        Check.isDouble("mean: a dry stall", square.mean(), 0.0);
        square.rain(7);
        Check.isDouble("mean: one stall", square.mean(), 7.0);
        square.stall(0, 0);
        Check.isDouble("mean: not cut", square.mean(), 3.5);
        square.stall(1, 0);
        Check.isDouble("mean: not cut", square.mean(), 7.0 / 3.0);
    }

    private static void digestOfNew() {
        long d = 1741;
        for (int i = 0; i < 11; i++) {
            d = d * 31;
        }
        for (int column = 0; column < 24; column++) {
            for (int i = 0; i < 4; i++) {
                d = d * 31;
            }
            for (int y = 0; y < 24; y++) {
                d = d * 31;
                d = d * 31 - 1;
                d = d * 31;
            }
        }
        Check.is("digest: new", new MarketAwnings().digest(), d);
    }

    private static void digestOrder() {
        Check.is("digest: all in their order", wetAndCovered().digest(), Squares.digestByCalls(() -> wetAndCovered()));
        MarketAwnings square = wetAndCovered();
        Check.is("digest: again the same", square.digest(), square.digest());
    }

    private static MarketAwnings wetAndCovered() {
        MarketAwnings square = new MarketAwnings();
        square.hang(3, 5, 7, 2, 4, RIGHT);
        square.hang(4, 2, 3, 8, 6, UP);
        square.hang(0, 20, 3, 4, 2, LEFT);
        square.roll(2);
        square.stall(4, 1);
        square.rain(3);
        square.stall(10, 5);
        square.rain(7);
        square.roll(2);
        return square;
    }
}
