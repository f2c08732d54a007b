/** What the tests of the bounds share: signs, squares to begin with, and a digest worked out by calls. */
final class Squares {
    static final Class<?> ARGUMENT = IllegalArgumentException.class;
    static final Class<?> INDEX = IndexOutOfBoundsException.class;
    static final Class<?> STATE = IllegalStateException.class;
    static final int MIN = Integer.MIN_VALUE;
    static final int MAX = Integer.MAX_VALUE;
    static final int LEFT = 0;
    static final int UP = 1;
    static final int RIGHT = 2;
    static final int DOWN = 3;
    static final int[] SIDES = {LEFT, UP, RIGHT, DOWN};

    interface Maker {
        MarketAwnings make();
    }

    private Squares() {
    }

    /** Awnings of one cell each that touch nowhere, with level 1 + number % 9, and stalls in the row 20. */
    static MarketAwnings of(int awnings, int stalls) {
        MarketAwnings square = new MarketAwnings();
        for (int i = 0; i < awnings; i++) {
            square.hang(2 * i, 2, 1, 1, 1 + i % 9, i % 4);
        }
        for (int i = 0; i < stalls; i++) {
            square.stall(3 * i, 20);
        }
        return square;
    }

    /** One awning over all cells. */
    static MarketAwnings whole(int side) {
        MarketAwnings square = new MarketAwnings();
        square.hang(0, 0, 24, 24, 5, side);
        return square;
    }

    static void rollAll(MarketAwnings square) {
        for (int i = 0; i < square.count(0); i++) {
            square.roll(i);
        }
    }

    static void rain(MarketAwnings square, int hours, int drops) {
        for (int i = 0; i < hours; i++) {
            square.rain(drops);
        }
    }

    /** A new object answers for each column, since nothing is promised after an object's 512th call. */
    static long digestByCalls(Maker maker) {
        MarketAwnings square = maker.make();
        long d = 1741;
        for (int what = 0; what <= 10; what++) {
            d = d * 31 + square.count(what);
        }
        for (int i = 0; i < square.count(0); i++) {
            for (int what = 0; what <= 8; what++) {
                d = d * 31 + square.about(i, what);
            }
        }
        for (int i = 0; i < square.count(2); i++) {
            for (int what = 0; what <= 3; what++) {
                d = d * 31 + square.told(i, what);
            }
        }
        for (int column = 0; column < 24; column++) {
            square = maker.make();
            for (int what = 0; what <= 3; what++) {
                d = d * 31 + square.cord(column, what);
            }
            for (int y = 0; y < 24; y++) {
                for (int what = 0; what <= 2; what++) {
                    d = d * 31 + square.cell(column, y, what);
                }
            }
        }
        return d;
    }
}
