/**
 * Every call with every mixture of right and wrong arguments, the smallest and the largest int among them:
 * of several exceptions that apply, the one that the document names first is thrown, and nothing changes.
 * Each mixture is asked of a square of its own.
 */
public final class RefusalTest {
    private static final String ARGUMENT = "throws.IllegalArgumentException";
    private static final String INDEX = "throws.IndexOutOfBoundsException";
    private static final String STATE = "throws.IllegalStateException";
    private static final String RIGHT = "an answer";
    private static final int MIN = Integer.MIN_VALUE;
    private static final int MAX = Integer.MAX_VALUE;
    private static final int[] PLACES = {MIN, -1, 0, 11, 12, 23, 24, MAX};
    private static final int[] EXTENTS = {MIN, -1, 0, 1, 12, 13, 24, 25, MAX};
    private static final int[] LEVELS = {MIN, 0, 1, 9, 10, MAX};
    private static final int[] SIDES = {MIN, -1, 0, 3, 4, MAX};
    private static final int[] DROPS = {MIN, -1, 0, 1, 20, 21, MAX};
    private static final int[] NUMBERS = {MIN, -1, 0, 1, 2, 7, 8, 9, 10, 11, MAX};
    private static final int[] WHATS = {MIN, -1, 0, 1, 2, 3, 4, 8, 9, 10, 11, MAX};

    private final int awnings;
    private final int stalls;
    private final long digest;

    interface Asked {
        Object answer(MarketAwnings square);
    }

    private RefusalTest(int awnings, int stalls) {
        this.awnings = awnings;
        this.stalls = stalls;
        digest = square().digest();
    }

    public static void main(String[] args) {
        int[][] sizes = {{0, 0}, {1, 1}, {2, 2}, {9, 7}, {10, 8}};
        for (int[] size : sizes) {
            RefusalTest test = new RefusalTest(size[0], size[1]);
            test.hangColumns();
            test.hangRows();
            test.hangLevelsAndSides();
            test.rollAndTake();
            test.move();
            test.stall();
            test.rain();
            test.about();
            test.cell();
            test.cord();
            test.told();
            test.share();
            test.count();
            test.would();
            test.best();
        }
        Check.end("RefusalTest");
    }

    /** The awnings lie in the row 2, the stalls in the row 20, and one hour of rain has been. */
    private MarketAwnings square() {
        MarketAwnings square = Squares.of(awnings, stalls);
        square.rain(3);
        return square;
    }

    private void asked(String call, String due, Asked one) {
        MarketAwnings square = square();
        String name = call + " with " + awnings + " awnings, " + stalls + " stalls";
        String got = Check.outcome(() -> one.answer(square));
        Check.isText(name, got.startsWith("throws.") ? got : RIGHT, due);
        if (!due.equals(RIGHT)) {
            Check.is(name + ", then digest()", square.digest(), digest);
        }
    }

    private static boolean between(int value, int least, int most) {
        return value >= least && value <= most;
    }

    private static boolean isWithin(int place, int extent) {
        return place >= 0 && (long) place + extent <= 24;
    }

    private static String refused(boolean wrong, String exception, String otherwise) {
        return wrong ? exception : otherwise;
    }

    private static String index(boolean right) {
        return refused(!right, INDEX, RIGHT);
    }

    private String hangDue(int x, int y, int w, int h, int level, int side) {
        boolean argument = between(w, 1, 24) && between(h, 1, 24) && between(level, 1, 9) && between(side, 0, 3);
        boolean place = isWithin(x, w) && isWithin(y, h);
        return refused(!argument, ARGUMENT, refused(!place, INDEX, refused(awnings == 10, STATE, RIGHT)));
    }

    private void hang(int x, int y, int w, int h, int level, int side) {
        String call = "hang(" + x + ", " + y + ", " + w + ", " + h + ", " + level + ", " + side + ")";
        asked(call, hangDue(x, y, w, h, level, side), square -> square.hang(x, y, w, h, level, side));
    }

    private void hangColumns() {
        for (int x : PLACES) {
            for (int w : EXTENTS) {
                for (int level : LEVELS) {
                    for (int side : SIDES) {
                        hang(x, 5, w, 3, level, side);
                    }
                }
            }
        }
    }

    private void hangRows() {
        for (int y : PLACES) {
            for (int h : EXTENTS) {
                for (int x : PLACES) {
                    for (int w : EXTENTS) {
                        hang(x, y, w, h, 5, 2);
                    }
                }
            }
        }
    }

    private void hangLevelsAndSides() {
        for (int level : LEVELS) {
            for (int side : SIDES) {
                for (int y : PLACES) {
                    for (int h : EXTENTS) {
                        hang(5, y, 3, h, level, side);
                    }
                }
            }
        }
    }

    private void rollAndTake() {
        for (int n : NUMBERS) {
            boolean known = between(n, 0, awnings - 1);
            asked("roll(" + n + ")", index(known), square -> square.roll(n));
            asked("take(" + n + ")", index(known), square -> square.take(n));
        }
    }

    private void move() {
        for (int n : NUMBERS) {
            for (int x : PLACES) {
                for (int y : PLACES) {
                    boolean right = between(n, 0, awnings - 1) && isWithin(x, 1) && isWithin(y, 1);
                    asked("move(" + n + ", " + x + ", " + y + ")", index(right), square -> square.move(n, x, y));
                }
            }
        }
    }

    private void stall() {
        int[] columns = {MIN, -1, 0, 1, 3, 21, 23, 24, MAX};
        int[] rows = {MIN, -1, 0, 19, 20, 21, 23, 24, MAX};
        for (int x : columns) {
            for (int y : rows) {
                boolean isThere = y == 20 && x % 3 == 0 && between(x / 3, 0, stalls - 1);
                String due = refused(stalls == 8 || isThere, STATE, RIGHT);
                boolean inSquare = isWithin(x, 1) && isWithin(y, 1);
                asked("stall(" + x + ", " + y + ")", refused(!inSquare, INDEX, due), square -> square.stall(x, y));
            }
        }
    }

    private void rain() {
        for (int drops : DROPS) {
            String due = refused(!between(drops, 1, 20), ARGUMENT, RIGHT);
            asked("rain(" + drops + ")", due, square -> square.rain(drops));
        }
    }

    private void about() {
        for (int n : NUMBERS) {
            for (int what : WHATS) {
                boolean right = between(n, 0, awnings - 1) && between(what, 0, 8);
                asked("about(" + n + ", " + what + ")", index(right), square -> square.about(n, what));
            }
        }
    }

    private void cell() {
        for (int x : PLACES) {
            for (int y : PLACES) {
                for (int what : WHATS) {
                    boolean right = isWithin(x, 1) && isWithin(y, 1) && between(what, 0, 2);
                    asked("cell(" + x + ", " + y + ", " + what + ")", index(right), square -> square.cell(x, y, what));
                }
            }
        }
    }

    private void cord() {
        for (int column : PLACES) {
            for (int what : WHATS) {
                boolean right = isWithin(column, 1) && between(what, 0, 3);
                asked("cord(" + column + ", " + what + ")", index(right), square -> square.cord(column, what));
            }
        }
    }

    private void told() {
        for (int n : NUMBERS) {
            for (int what : WHATS) {
                boolean right = between(n, 0, stalls - 1) && between(what, 0, 3);
                asked("told(" + n + ", " + what + ")", index(right), square -> square.told(n, what));
            }
        }
    }

    private void share() {
        for (int a : NUMBERS) {
            for (int b : NUMBERS) {
                boolean right = between(a, 0, awnings - 1) && between(b, 0, awnings - 1);
                asked("share(" + a + ", " + b + ")", index(right), square -> square.share(a, b));
            }
        }
    }

    private void count() {
        for (int what : WHATS) {
            asked("count(" + what + ")", index(between(what, 0, 10)), square -> square.count(what));
        }
    }

    private void would() {
        for (int n : NUMBERS) {
            for (int drops : DROPS) {
                String due = refused(!between(drops, 1, 20), ARGUMENT, RIGHT);
                boolean known = between(n, 0, stalls - 1);
                asked("would(" + n + ", " + drops + ")", refused(!known, INDEX, due), square -> square.would(n, drops));
            }
        }
    }

    private void best() {
        for (int w : EXTENTS) {
            for (int h : EXTENTS) {
                for (int what : WHATS) {
                    boolean argument = between(w, 1, 24) && between(h, 1, 24);
                    String due = refused(!argument, ARGUMENT, index(between(what, 0, 2)));
                    asked("best(" + w + ", " + h + ", " + what + ")", due, square -> square.best(w, h, what));
                }
            }
        }
    }
}
