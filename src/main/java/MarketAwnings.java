import java.util.ArrayList;
import java.util.Arrays;

/**
 * Awnings over a market square.
 *
 * They are hung, moved, rolled in and out and taken down; rain runs from one to the next and wets
 * the ground and the stalls. All working rows are made once, with the object, and used again.
 */
public final class MarketAwnings {
    private static final int SIZE = 24;
    private static final int CELLS = SIZE * SIZE;
    private static final int MOST_AWNINGS = 10;
    private static final int MOST_STALLS = 8;
    private static final int MOST_DROPS = 20;
    private static final int TOP_LEVEL = 9;
    private static final int LEFT = 0;
    private static final int UP = 1;
    private static final int RIGHT = 2;
    private static final int DOWN = 3;
    private static final int NONE = -1;
    private static final long DIGEST_START = 1741L;
    private static final long DIGEST_FACTOR = 31L;

    private static final int LAST_OF_ABOUT = 8;
    private static final int LAST_OF_CELL = 2;
    private static final int LAST_OF_CORD = 3;
    private static final int LAST_OF_TOLD = 3;
    private static final int LAST_OF_COUNT = 10;
    private static final int LAST_OF_BEST = 2;

    private final Canopy canopy;
    private final Shower shower;
    private final ArrayList<Stall> stalls;
    private final int[] ground;
    private int hours;
    private int groundDrops;
    private int offDrops;

    public MarketAwnings() {
        canopy = new Canopy();
        shower = new Shower(canopy);
        stalls = new ArrayList<Stall>();
        ground = new int[CELLS];
        hours = 0;
        groundDrops = 0;
        offDrops = 0;
    }

    // ---- awnings and stalls

    public int hang(int x, int y, int w, int h, int level, int side)
            throws IllegalArgumentException, IndexOutOfBoundsException, IllegalStateException {
        requireExtent(w, h);
        if (level < 1 || level > TOP_LEVEL) {
            throw new IllegalArgumentException("level is not 1 to 9");
        }
        if (side < LEFT || side > DOWN) {
            throw new IllegalArgumentException("side is not 0 to 3");
        }
        requireRoomInSquare(x, y, w, h);
        if (canopy.size() >= MOST_AWNINGS) {
            throw new IllegalStateException("there are 10 awnings");
        }
        canopy.append(new Awning(x, y, w, h, level, side));
        return canopy.size() - 1;
    }

    public boolean roll(int awning) throws IndexOutOfBoundsException {
        Awning rolled = canopy.numbered(awning);
        rolled.out = !rolled.out;
        canopy.layOut();
        return rolled.out;
    }

    public int move(int awning, int x, int y) throws IndexOutOfBoundsException {
        Awning moved = canopy.numbered(awning);
        requireRoomInSquare(x, y, moved.w, moved.h);
        moved.x = x;
        moved.y = y;
        canopy.layOut();
        return canopy.covered();
    }

    public int take(int awning) throws IndexOutOfBoundsException {
        canopy.drop(awning);
        return canopy.size();
    }

    public int stall(int x, int y) throws IndexOutOfBoundsException, IllegalStateException {
        requireCell(x, y);
        if (stalls.size() >= MOST_STALLS) {
            throw new IllegalStateException("there are 8 stalls");
        }
        if (hasStallAt(x, y)) {
            throw new IllegalStateException("a stall is there");
        }
        stalls.add(new Stall(x, y, groundAt(x, y)));
        return stalls.size() - 1;
    }

    // ---- rain

    public int rain(int drops) throws IllegalArgumentException {
        requireDrops(drops);
        shower.pour(drops);
        for (int y = 0; y < SIZE; y++) {
            for (int x = 0; x < SIZE; x++) {
                ground[y * SIZE + x] += shower.fallenAt(x, y);
            }
        }
        for (int i = 0; i < canopy.size(); i++) {
            canopy.numbered(i).dripped += shower.caughtBy(i);
        }
        hours++;
        groundDrops += shower.onGround;
        offDrops += shower.ranOff;
        return shower.onGround;
    }

    // ---- what there is

    public int about(int awning, int what) throws IndexOutOfBoundsException {
        Awning asked = canopy.numbered(awning);
        requireWhat(what, LAST_OF_ABOUT);
        switch (what) {
            case 0: return asked.x;
            case 1: return asked.y;
            case 2: return asked.w;
            case 3: return asked.h;
            case 4: return asked.level;
            case 5: return asked.side;
            case 6: return asked.out ? 1 : 0;
            case 7: return canopy.coveredOnlyBy(asked);
            default: return asked.dripped;
        }
    }

    public int cell(int x, int y, int what) throws IndexOutOfBoundsException {
        requireCell(x, y);
        requireWhat(what, LAST_OF_CELL);
        switch (what) {
            case 0: return canopy.layersAt(x, y);
            case 1: return canopy.highestBelow(TOP_LEVEL + 1, x, y);
            default: return groundAt(x, y);
        }
    }

    public int cord(int column, int what) throws IndexOutOfBoundsException {
        if (column < 0 || column >= SIZE) {
            throw new IndexOutOfBoundsException("column is not 0 to 23");
        }
        requireWhat(what, LAST_OF_CORD);
        switch (what) {
            case 0: return canopy.coveredInColumn(column);
            case 1: return canopy.runsInColumn(column);
            case 2: return canopy.longestRunInColumn(column);
            default: return canopy.mostLayersInColumn(column);
        }
    }

    public int told(int stall, int what) throws IndexOutOfBoundsException {
        Stall asked = numberedStall(stall);
        requireWhat(what, LAST_OF_TOLD);
        switch (what) {
            case 0: return asked.x;
            case 1: return asked.y;
            case 2: return gotBy(asked);
            default: return canopy.layersAt(asked.x, asked.y);
        }
    }

    public int share(int a, int b) throws IndexOutOfBoundsException {
        Awning first = canopy.numbered(a);
        Awning second = canopy.numbered(b);
        if (!first.out || !second.out) {
            return 0;
        }
        int wide = Math.min(first.x + first.w, second.x + second.w) - Math.max(first.x, second.x);
        int high = Math.min(first.y + first.h, second.y + second.h) - Math.max(first.y, second.y);
        return wide > 0 && high > 0 ? wide * high : 0;
    }

    public int count(int what) throws IndexOutOfBoundsException {
        requireWhat(what, LAST_OF_COUNT);
        switch (what) {
            case 0: return canopy.size();
            case 1: return canopy.sizeOut();
            case 2: return stalls.size();
            case 3: return canopy.covered();
            case 4: return canopy.outline();
            case 5: return canopy.parts();
            case 6: return canopy.cellsWithLayers(2);
            case 7: return hours;
            case 8: return groundDrops;
            case 9: return offDrops;
            default: return stallsNotCovered();
        }
    }

    // ---- what would be

    public int would(int stall, int drops) throws IndexOutOfBoundsException, IllegalArgumentException {
        Stall asked = numberedStall(stall);
        requireDrops(drops);
        shower.pour(drops);
        return shower.fallenAt(asked.x, asked.y);
    }

    public int best(int w, int h, int what) throws IllegalArgumentException, IndexOutOfBoundsException {
        requireExtent(w, h);
        requireWhat(what, LAST_OF_BEST);
        int bestX = 0;
        int bestY = 0;
        int most = NONE;
        for (int y = 0; y <= SIZE - h; y++) {
            for (int x = 0; x <= SIZE - w; x++) {
                int gained = canopy.notCoveredIn(x, y, w, h);
                if (gained > most) {
                    most = gained;
                    bestX = x;
                    bestY = y;
                }
            }
        }
        switch (what) {
            case 0: return bestX;
            case 1: return bestY;
            default: return most;
        }
    }

    public int advise() {
        int advised = NONE;
        int fewest = CELLS + 1;
        for (int i = 0; i < canopy.size(); i++) {
            Awning awning = canopy.numbered(i);
            if (!awning.out) {
                continue;
            }
            int lost = canopy.coveredOnlyBy(awning);
            if (lost < fewest) {
                fewest = lost;
                advised = i;
            }
        }
        return advised;
    }

    public double mean() {
        int many = stalls.size();
        if (many == 0) {
            return 0.0;
        }
        int got = 0;
        for (int i = 0; i < many; i++) {
            got += gotBy(numberedStall(i));
        }
        return (double) got / (double) many;
    }

    public long digest() {
        long d = DIGEST_START;
        for (int what = 0; what <= LAST_OF_COUNT; what++) {
            d = d * DIGEST_FACTOR + count(what);
        }
        for (int i = 0; i < canopy.size(); i++) {
            for (int what = 0; what <= LAST_OF_ABOUT; what++) {
                d = d * DIGEST_FACTOR + about(i, what);
            }
        }
        for (int i = 0; i < stalls.size(); i++) {
            for (int what = 0; what <= LAST_OF_TOLD; what++) {
                d = d * DIGEST_FACTOR + told(i, what);
            }
        }
        for (int column = 0; column < SIZE; column++) {
            d = digestOfColumn(d, column);
        }
        return d;
    }

    private long digestOfColumn(long before, int column) {
        long d = before;
        for (int what = 0; what <= LAST_OF_CORD; what++) {
            d = d * DIGEST_FACTOR + cord(column, what);
        }
        for (int y = 0; y < SIZE; y++) {
            for (int what = 0; what <= LAST_OF_CELL; what++) {
                d = d * DIGEST_FACTOR + cell(column, y, what);
            }
        }
        return d;
    }

    // ---- stalls and the ground

    private Stall numberedStall(int number) {
        if (number < 0 || number >= stalls.size()) {
            throw new IndexOutOfBoundsException("there is no such stall");
        }
        return stalls.get(number);
    }

    private boolean hasStallAt(int x, int y) {
        for (int i = 0; i < stalls.size(); i++) {
            Stall stall = stalls.get(i);
            if (stall.x == x && stall.y == y) {
                return true;
            }
        }
        return false;
    }

    private int stallsNotCovered() {
        int open = 0;
        for (int i = 0; i < stalls.size(); i++) {
            Stall stall = stalls.get(i);
            if (canopy.layersAt(stall.x, stall.y) == 0) {
                open++;
            }
        }
        return open;
    }

    private int gotBy(Stall stall) {
        return groundAt(stall.x, stall.y) - stall.groundBefore;
    }

    private int groundAt(int x, int y) {
        return isCell(x, y) ? ground[y * SIZE + x] : 0;
    }

    // ---- what is asked of arguments

    private static boolean isCell(int x, int y) {
        return x >= 0 && x < SIZE && y >= 0 && y < SIZE;
    }

    private static void requireCell(int x, int y) {
        if (!isCell(x, y)) {
            throw new IndexOutOfBoundsException("x or y is not 0 to 23");
        }
    }

    private static void requireExtent(int w, int h) {
        if (w < 1 || w > SIZE || h < 1 || h > SIZE) {
            throw new IllegalArgumentException("w or h is not 1 to 24");
        }
    }

    /** Asks w and h to be 1 to 24 already: x + w could wrap around, SIZE - w can not. */
    private static void requireRoomInSquare(int x, int y, int w, int h) {
        if (x < 0 || y < 0 || x > SIZE - w || y > SIZE - h) {
            throw new IndexOutOfBoundsException("some cell of it is not in the square");
        }
    }

    private static void requireDrops(int drops) {
        if (drops < 1 || drops > MOST_DROPS) {
            throw new IllegalArgumentException("drops is not 1 to 20");
        }
    }

    private static void requireWhat(int what, int last) {
        if (what < 0 || what > last) {
            throw new IndexOutOfBoundsException("there is no such what");
        }
    }

    /** An awning; its rectangle is always within the square. */
    private static final class Awning {
        int x;
        int y;
        final int w;
        final int h;
        final int level;
        final int side;
        boolean out;
        int dripped;

        Awning(int x, int y, int w, int h, int level, int side) {
            this.x = x;
            this.y = y;
            this.w = w;
            this.h = h;
            this.level = level;
            this.side = side;
            this.out = true;
            this.dripped = 0;
        }

        boolean covers(int column, int row) {
            return out && column >= x && column < x + w && row >= y && row < y + h;
        }

        boolean dripsAlongRows() {
            return side == LEFT || side == RIGHT;
        }

        int cellsBeyond() {
            return dripsAlongRows() ? h : w;
        }

        int columnBeyond(int i) {
            if (dripsAlongRows()) {
                return side == LEFT ? x - 1 : x + w;
            }
            return x + i;
        }

        int rowBeyond(int i) {
            if (dripsAlongRows()) {
                return y + i;
            }
            return side == UP ? y - 1 : y + h;
        }
    }

    /** A stall, and what the ground of its cell had got before it was there. */
    private static final class Stall {
        final int x;
        final int y;
        final int groundBefore;

        Stall(int x, int y, int groundBefore) {
            this.x = x;
            this.y = y;
            this.groundBefore = groundBefore;
        }
    }

    /** The row of awnings, and how many of those that are out lie over each cell. */
    private static final class Canopy {
        private final ArrayList<Awning> awnings;
        private final int[] layers;
        private final int[] reached;
        private final int[] queue;
        private int queued;

        Canopy() {
            awnings = new ArrayList<Awning>();
            layers = new int[CELLS];
            reached = new int[CELLS];
            queue = new int[CELLS];
            queued = 0;
        }

        int size() {
            return awnings.size();
        }

        int sizeOut() {
            int many = 0;
            for (int i = 0; i < awnings.size(); i++) {
                if (awnings.get(i).out) {
                    many++;
                }
            }
            return many;
        }

        Awning numbered(int number) {
            if (number < 0 || number >= awnings.size()) {
                throw new IndexOutOfBoundsException("there is no such awning");
            }
            return awnings.get(number);
        }

        void append(Awning awning) {
            awnings.add(awning);
            layOut();
        }

        void drop(int number) {
            if (number < 0 || number >= awnings.size()) {
                throw new IndexOutOfBoundsException("there is no such awning");
            }
            awnings.remove(number);
            layOut();
        }

        /** Has to follow every change of an awning, or the layers are those of before. */
        void layOut() {
            Arrays.fill(layers, 0);
            for (int i = 0; i < awnings.size(); i++) {
                if (awnings.get(i).out) {
                    layOver(awnings.get(i));
                }
            }
        }

        private void layOver(Awning awning) {
            for (int y = awning.y; y < awning.y + awning.h; y++) {
                for (int x = awning.x; x < awning.x + awning.w; x++) {
                    if (isCell(x, y)) {
                        layers[y * SIZE + x]++;
                    }
                }
            }
        }

        /** Beyond the edge of the square nothing is covered: 0. */
        int layersAt(int x, int y) {
            return isCell(x, y) ? layers[y * SIZE + x] : 0;
        }

        /** The number of the highest awning over a cell of those with a smaller level, or NONE. */
        int highestBelow(int level, int x, int y) {
            int highest = NONE;
            int itsLevel = 0;
            for (int i = 0; i < awnings.size(); i++) {
                Awning awning = awnings.get(i);
                if (awning.level < level && awning.level > itsLevel && awning.covers(x, y)) {
                    highest = i;
                    itsLevel = awning.level;
                }
            }
            return highest;
        }

        int covered() {
            return cellsWithLayers(1);
        }

        int cellsWithLayers(int least) {
            int many = 0;
            for (int i = 0; i < CELLS; i++) {
                if (layers[i] >= least) {
                    many++;
                }
            }
            return many;
        }

        int coveredOnlyBy(Awning awning) {
            if (!awning.out) {
                return 0;
            }
            int many = 0;
            for (int y = awning.y; y < awning.y + awning.h; y++) {
                for (int x = awning.x; x < awning.x + awning.w; x++) {
                    if (layersAt(x, y) == 1) {
                        many++;
                    }
                }
            }
            return many;
        }

        int notCoveredIn(int left, int upper, int w, int h) {
            int many = 0;
            for (int y = upper; y < upper + h; y++) {
                for (int x = left; x < left + w; x++) {
                    if (layersAt(x, y) == 0) {
                        many++;
                    }
                }
            }
            return many;
        }

        int outline() {
            int sides = 0;
            for (int y = 0; y < SIZE; y++) {
                for (int x = 0; x < SIZE; x++) {
                    if (layersAt(x, y) > 0) {
                        sides += openSides(x, y);
                    }
                }
            }
            return sides;
        }

        private int openSides(int x, int y) {
            return openAt(x - 1, y) + openAt(x, y - 1) + openAt(x + 1, y) + openAt(x, y + 1);
        }

        private int openAt(int x, int y) {
            return layersAt(x, y) == 0 ? 1 : 0;
        }

        int parts() {
            Arrays.fill(reached, 0);
            int many = 0;
            for (int y = 0; y < SIZE; y++) {
                for (int x = 0; x < SIZE; x++) {
                    queued = 0;
                    reach(x, y);
                    if (queued > 0) {
                        many++;
                        reachAllFromQueue();
                    }
                }
            }
            return many;
        }

        private void reachAllFromQueue() {
            for (int i = 0; i < queued && i < CELLS; i++) {
                int x = queue[i] % SIZE;
                int y = queue[i] / SIZE;
                reach(x - 1, y);
                reach(x, y - 1);
                reach(x + 1, y);
                reach(x, y + 1);
            }
        }

        private void reach(int x, int y) {
            if (layersAt(x, y) == 0 || !isCell(x, y)) {
                return;
            }
            int place = y * SIZE + x;
            if (reached[place] == 0 && queued >= 0 && queued < CELLS) {
                reached[place] = 1;
                queue[queued] = place;
                queued++;
            }
        }

        int coveredInColumn(int column) {
            int many = 0;
            for (int y = 0; y < SIZE; y++) {
                if (layersAt(column, y) > 0) {
                    many++;
                }
            }
            return many;
        }

        int runsInColumn(int column) {
            int runs = 0;
            for (int y = 0; y < SIZE; y++) {
                if (layersAt(column, y) > 0 && layersAt(column, y - 1) == 0) {
                    runs++;
                }
            }
            return runs;
        }

        int longestRunInColumn(int column) {
            int longest = 0;
            int run = 0;
            for (int y = 0; y < SIZE; y++) {
                run = layersAt(column, y) > 0 ? run + 1 : 0;
                longest = Math.max(longest, run);
            }
            return longest;
        }

        int mostLayersInColumn(int column) {
            int most = 0;
            for (int y = 0; y < SIZE; y++) {
                most = Math.max(most, layersAt(column, y));
            }
            return most;
        }
    }

    /** One hour of rain, worked out beside the square: the square itself is not changed by it. */
    private static final class Shower {
        private final Canopy canopy;
        private final int[] fallen;
        private final int[] caught;
        int onGround;
        int ranOff;

        Shower(Canopy canopy) {
            this.canopy = canopy;
            fallen = new int[CELLS];
            caught = new int[MOST_AWNINGS];
            onGround = 0;
            ranOff = 0;
        }

        void pour(int drops) {
            dry();
            for (int y = 0; y < SIZE; y++) {
                for (int x = 0; x < SIZE; x++) {
                    land(drops, x, y, TOP_LEVEL + 1);
                }
            }
            for (int level = TOP_LEVEL; level >= 1; level--) {
                dripFromLevel(level);
            }
        }

        int fallenAt(int x, int y) {
            return isCell(x, y) ? fallen[y * SIZE + x] : 0;
        }

        int caughtBy(int number) {
            return number >= 0 && number < caught.length ? caught[number] : 0;
        }

        private void dry() {
            Arrays.fill(fallen, 0);
            Arrays.fill(caught, 0);
            onGround = 0;
            ranOff = 0;
        }

        private void dripFromLevel(int level) {
            for (int i = 0; i < canopy.size(); i++) {
                Awning awning = canopy.numbered(i);
                if (awning.out && awning.level == level) {
                    drip(awning, caughtBy(i));
                }
            }
        }

        private void drip(Awning awning, int drops) {
            int cells = awning.cellsBeyond();
            if (cells < 1) {
                return;
            }
            int each = drops / cells;
            int oneMore = drops % cells;
            for (int i = 0; i < cells; i++) {
                int here = i < oneMore ? each + 1 : each;
                land(here, awning.columnBeyond(i), awning.rowBeyond(i), awning.level);
            }
        }

        private void land(int drops, int x, int y, int belowLevel) {
            if (!isCell(x, y)) {
                ranOff += drops;
                return;
            }
            int highest = canopy.highestBelow(belowLevel, x, y);
            if (highest >= 0 && highest < caught.length) {
                caught[highest] += drops;
            } else {
                fallen[y * SIZE + x] += drops;
                onGround += drops;
            }
        }
    }
}
