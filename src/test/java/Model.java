import java.util.ArrayList;
import java.util.List;

/**
 * The document's words once more, slow and by other ways than the class: nothing is kept but the
 * awnings, the stalls and the hours of rain as lists, and all else is worked out cell by cell.
 */
final class Model {
    private static final int SIZE = 24;

    private final List<int[]> awnings = new ArrayList<>();
    private final List<int[]> stalls = new ArrayList<>();
    private final int[][] ground = new int[SIZE][SIZE];
    private int hours = 0;
    private int fell = 0;

    private static final int X = 0;
    private static final int Y = 1;
    private static final int W = 2;
    private static final int H = 3;
    private static final int LEVEL = 4;
    private static final int SIDE = 5;
    private static final int OUT = 6;
    private static final int DRIPPED = 7;

    Object hang(int x, int y, int w, int h, int level, int side) {
        if (!between(w, 1, 24) || !between(h, 1, 24) || !between(level, 1, 9) || !between(side, 0, 3)) {
            throw new IllegalArgumentException();
        }
        inside(x, y, w, h);
        if (awnings.size() == 10) {
            throw new IllegalStateException();
        }
        awnings.add(new int[] {x, y, w, h, level, side, 1, 0});
        return awnings.size() - 1;
    }

    Object roll(int awning) {
        int[] a = awnings.get(known(awning, awnings.size()));
        a[OUT] = 1 - a[OUT];
        return a[OUT] == 1;
    }

    Object move(int awning, int x, int y) {
        int[] a = awnings.get(known(awning, awnings.size()));
        inside(x, y, a[W], a[H]);
        a[X] = x;
        a[Y] = y;
        return count(3);
    }

    Object take(int awning) {
        awnings.remove(known(awning, awnings.size()));
        return awnings.size();
    }

    Object stall(int x, int y) {
        inside(x, y, 1, 1);
        boolean taken = stalls.size() == 8;
        for (int[] s : stalls) {
            taken |= s[X] == x && s[Y] == y;
        }
        if (taken) {
            throw new IllegalStateException();
        }
        stalls.add(new int[] {x, y, 0});
        return stalls.size() - 1;
    }

    Object rain(int drops) {
        drops(drops);
        int[][] wet = new int[SIZE][SIZE];
        int[] over = new int[awnings.size()];
        hour(drops, wet, over);
        int sum = 0;
        for (int x = 0; x < SIZE; x++) {
            for (int y = 0; y < SIZE; y++) {
                ground[x][y] += wet[x][y];
                sum += wet[x][y];
            }
        }
        for (int i = 0; i < over.length; i++) {
            awnings.get(i)[DRIPPED] += over[i];
        }
        for (int[] s : stalls) {
            s[2] += wet[s[X]][s[Y]];
        }
        hours++;
        fell += drops * SIZE * SIZE;
        return sum;
    }

    Object about(int awning, int what) {
        int[] a = awnings.get(known(awning, awnings.size()));
        known(what, 9);
        if (what == 7) {
            int alone = 0;
            for (int x = 0; x < SIZE; x++) {
                for (int y = 0; y < SIZE; y++) {
                    List<Integer> here = over(x, y);
                    alone += here.size() == 1 && here.get(0) == awning ? 1 : 0;
                }
            }
            return alone;
        }
        return what == 8 ? a[DRIPPED] : a[what];
    }

    Object cell(int x, int y, int what) {
        inside(x, y, 1, 1);
        known(what, 3);
        List<Integer> here = over(x, y);
        if (what == 0) {
            return here.size();
        }
        return what == 1 ? highest(here, 99) : ground[x][y];
    }

    Object cord(int column, int what) {
        known(column, SIZE);
        known(what, 4);
        StringBuilder signs = new StringBuilder();
        int most = 0;
        int covered = 0;
        for (int y = 0; y < SIZE; y++) {
            int here = over(column, y).size();
            most = Math.max(most, here);
            covered += here > 0 ? 1 : 0;
            signs.append(here > 0 ? 'o' : ' ');
        }
        int runs = 0;
        int longest = 0;
        for (String run : signs.toString().trim().split(" +")) {
            runs += run.isEmpty() ? 0 : 1;
            longest = Math.max(longest, run.length());
        }
        return new int[] {covered, runs, longest, most}[what];
    }

    Object told(int stall, int what) {
        int[] s = stalls.get(known(stall, stalls.size()));
        known(what, 4);
        return what < 3 ? s[what] : over(s[X], s[Y]).size();
    }

    Object share(int a, int b) {
        known(a, awnings.size());
        known(b, awnings.size());
        int both = 0;
        for (int x = 0; x < SIZE; x++) {
            for (int y = 0; y < SIZE; y++) {
                List<Integer> here = over(x, y);
                both += here.contains(a) && here.contains(b) ? 1 : 0;
            }
        }
        return both;
    }

    Object count(int what) {
        known(what, 11);
        switch (what) {
            case 0: return awnings.size();
            case 1: return awnings.stream().mapToInt(a -> a[OUT]).sum();
            case 2: return stalls.size();
            case 3: return cellsUnder(1);
            case 4: return changesOfCover();
            case 5: return partsByColour();
            case 6: return cellsUnder(2);
            case 7: return hours;
            case 8: return allGround();
            case 9: return fell - allGround();
            default: return (int) stalls.stream().filter(s -> over(s[X], s[Y]).isEmpty()).count();
        }
    }

    Object would(int stall, int drops) {
        int[] s = stalls.get(known(stall, stalls.size()));
        drops(drops);
        int[][] wet = new int[SIZE][SIZE];
        hour(drops, wet, new int[awnings.size()]);
        return wet[s[X]][s[Y]];
    }

    Object best(int w, int h, int what) {
        if (!between(w, 1, 24) || !between(h, 1, 24)) {
            throw new IllegalArgumentException();
        }
        known(what, 3);
        boolean[][] open = new boolean[SIZE][SIZE];
        for (int x = 0; x < SIZE; x++) {
            for (int y = 0; y < SIZE; y++) {
                open[x][y] = over(x, y).isEmpty();
            }
        }
        int[] found = {0, 0, -1};
        for (int y = SIZE - h; y >= 0; y--) {
            for (int x = SIZE - w; x >= 0; x--) {
                int here = 0;
                for (int k = 0; k < w * h; k++) {
                    here += open[x + k % w][y + k / w] ? 1 : 0;
                }
                if (here >= found[2]) {
                    found = new int[] {x, y, here};
                }
            }
        }
        return found[what];
    }

    Object advise() {
        int covered = cellsUnder(1);
        int least = 1000;
        int advised = -1;
        for (int i = awnings.size() - 1; i >= 0; i--) {
            if (awnings.get(i)[OUT] == 1) {
                roll(i);
                int lost = covered - cellsUnder(1);
                roll(i);
                if (lost <= least) {
                    least = lost;
                    advised = i;
                }
            }
        }
        return advised;
    }

    Object mean() {
        double sum = stalls.stream().mapToInt(s -> s[2]).sum();
        return stalls.isEmpty() ? 0.0 : sum / stalls.size();
    }

    Object digest() {
        List<Object> told = new ArrayList<>();
        for (int what = 0; what < 11; what++) {
            told.add(count(what));
        }
        for (int i = 0; i < awnings.size(); i++) {
            for (int what = 0; what < 9; what++) {
                told.add(about(i, what));
            }
        }
        for (int i = 0; i < stalls.size(); i++) {
            for (int what = 0; what < 4; what++) {
                told.add(told(i, what));
            }
        }
        for (int column = 0; column < SIZE; column++) {
            for (int what = 0; what < 4; what++) {
                told.add(cord(column, what));
            }
            for (int y = 0; y < SIZE; y++) {
                for (int what = 0; what < 3; what++) {
                    told.add(cell(column, y, what));
                }
            }
        }
        long d = 1741;
        for (Object x : told) {
            d = d * 31 + (Integer) x;
        }
        return d;
    }

    /** The hour of rain: each awning's share of the row beyond it, cell by cell. */
    private void hour(int drops, int[][] wet, int[] held) {
        for (int x = 0; x < SIZE; x++) {
            for (int y = 0; y < SIZE; y++) {
                fall(drops, x, y, 99, wet, held);
            }
        }
        List<Integer> order = new ArrayList<>();
        for (int i = 0; i < awnings.size(); i++) {
            order.add(i);
        }
        order.sort((a, b) -> awnings.get(b)[LEVEL] - awnings.get(a)[LEVEL]);
        for (int i : order) {
            int[] a = awnings.get(i);
            int[][] steps = {{a[X] - 1, a[Y], 0, 1, a[H]}, {a[X], a[Y] - 1, 1, 0, a[W]},
                {a[X] + a[W], a[Y], 0, 1, a[H]}, {a[X], a[Y] + a[H], 1, 0, a[W]}};
            int[] s = steps[a[SIDE]];
            for (int k = 0; k < s[4]; k++) {
                int part = (held[i] + s[4] - 1 - k) / s[4];
                fall(part, s[0] + k * s[2], s[1] + k * s[3], a[LEVEL], wet, held);
            }
        }
    }

    private void fall(int drops, int x, int y, int below, int[][] wet, int[] held) {
        if (between(x, 0, 23) && between(y, 0, 23)) {
            int on = highest(over(x, y), below);
            if (on < 0) {
                wet[x][y] += drops;
            } else {
                held[on] += drops;
            }
        }
    }

    private List<Integer> over(int x, int y) {
        List<Integer> here = new ArrayList<>();
        for (int i = 0; i < awnings.size(); i++) {
            int[] a = awnings.get(i);
            if (a[OUT] == 1 && between(x, a[X], a[X] + a[W] - 1) && between(y, a[Y], a[Y] + a[H] - 1)) {
                here.add(i);
            }
        }
        return here;
    }

    private int highest(List<Integer> here, int below) {
        return here.stream().filter(i -> awnings.get(i)[LEVEL] < below)
            .min((a, b) -> awnings.get(a)[LEVEL] == awnings.get(b)[LEVEL] ? a - b : awnings.get(b)[LEVEL] - awnings.get(a)[LEVEL])
            .orElse(-1);
    }

    private int cellsUnder(int least) {
        int many = 0;
        for (int k = 0; k < SIZE * SIZE; k++) {
            many += over(k % SIZE, k / SIZE).size() >= least ? 1 : 0;
        }
        return many;
    }

    /** The outline as changes between covered and not, along each row and each column. */
    private int changesOfCover() {
        int changes = 0;
        for (int line = 0; line < SIZE; line++) {
            for (int k = 0; k <= SIZE; k++) {
                changes += over(k - 1, line).isEmpty() != over(k, line).isEmpty() ? 1 : 0;
                changes += over(line, k - 1).isEmpty() != over(line, k).isEmpty() ? 1 : 0;
            }
        }
        return changes;
    }

    /** Each covered cell bears a colour; neighbours take the smaller one until nothing changes. */
    private int partsByColour() {
        int[] colour = new int[SIZE * SIZE];
        for (int k = 0; k < colour.length; k++) {
            colour[k] = over(k % SIZE, k / SIZE).isEmpty() ? -1 : k;
        }
        boolean changed = true;
        while (changed) {
            changed = false;
            for (int k = 0; k < colour.length; k++) {
                if (k % SIZE < SIZE - 1) {
                    changed |= unite(colour, k, k + 1);
                }
                if (k + SIZE < colour.length) {
                    changed |= unite(colour, k, k + SIZE);
                }
            }
        }
        int parts = 0;
        for (int k = 0; k < colour.length; k++) {
            parts += colour[k] == k ? 1 : 0;
        }
        return parts;
    }

    private static boolean unite(int[] colour, int a, int b) {
        if (colour[a] < 0 || colour[b] < 0 || colour[a] == colour[b]) {
            return false;
        }
        int least = Math.min(colour[a], colour[b]);
        colour[a] = least;
        colour[b] = least;
        return true;
    }

    private int allGround() {
        int sum = 0;
        for (int[] column : ground) {
            for (int drops : column) {
                sum += drops;
            }
        }
        return sum;
    }

    private static boolean between(int value, int least, int most) {
        return value >= least && value <= most;
    }

    private static int known(int number, int many) {
        if (!between(number, 0, many - 1)) {
            throw new IndexOutOfBoundsException();
        }
        return number;
    }

    private static void inside(int x, int y, int w, int h) {
        if (!between(x, 0, SIZE - w) || !between(y, 0, SIZE - h)) {
            throw new IndexOutOfBoundsException();
        }
    }

    private static void drops(int drops) {
        if (!between(drops, 1, 20)) {
            throw new IllegalArgumentException();
        }
    }
}
