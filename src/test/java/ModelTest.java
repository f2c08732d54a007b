/** Long runs of calls, the same ones every time, each answered by the class and by the model. */
public final class ModelTest {
    private static final int RUNS = 120;
    private static final int CALLS = 500;
    private static final int[] ODD = {-1, -2, 24, 25, 23, 10, 21, Integer.MIN_VALUE, Integer.MAX_VALUE};

    private long state;
    private MarketAwnings square;
    private Model model;
    private int run;

    public static void main(String[] args) {
        ModelTest test = new ModelTest();
        for (int run = 0; run < RUNS; run++) {
            test.runOnce(run);
        }
        Check.end("ModelTest");
    }

    private void runOnce(int number) {
        run = number;
        state = 77_777L * (number + 1);
        square = new MarketAwnings();
        model = new Model();
        for (int i = 0; i < CALLS; i++) {
            callOne();
        }
        same("digest()", () -> square.digest(), () -> model.digest());
    }

    private void callOne() {
        int kind = below(100);
        if (kind < 52) {
            change(kind);
        } else {
            ask(kind);
        }
    }

    private void change(int kind) {
        int awning = number(10);
        int x = number(24);
        int y = number(24);
        int drops = 1 + number(20);
        if (kind < 20) {
            hang(x, y);
        } else if (kind < 27) {
            same("roll(" + awning + ")", () -> square.roll(awning), () -> model.roll(awning));
        } else if (kind < 36) {
            same("move(" + awning + ", " + x + ", " + y + ")", () -> square.move(awning, x, y), () -> model.move(awning, x, y));
        } else if (kind < 39) {
            same("take(" + awning + ")", () -> square.take(awning), () -> model.take(awning));
        } else if (kind < 43) {
            same("stall(" + x + ", " + y + ")", () -> square.stall(x, y), () -> model.stall(x, y));
        } else {
            same("rain(" + drops + ")", () -> square.rain(drops), () -> model.rain(drops));
        }
    }

    private void hang(int x, int y) {
        int widest = run % 3 == 0 ? 24 : 9;
        int w = 1 + number(widest);
        int h = 1 + number(widest);
        int level = 1 + number(run % 2 == 0 ? 9 : 3);
        int side = number(4);
        same("hang(" + x + ", " + y + ", " + w + ", " + h + ", " + level + ", " + side + ")",
            () -> square.hang(x, y, w, h, level, side), () -> model.hang(x, y, w, h, level, side));
    }

    private void ask(int kind) {
        int a = number(10);
        int b = number(10);
        int x = number(24);
        int y = number(24);
        int w = 1 + number(24);
        int h = 1 + number(24);
        int s = number(8);
        int drops = 1 + number(20);
        if (kind < 60) {
            int what = number(9);
            same("about(" + a + ", " + what + ")", () -> square.about(a, what), () -> model.about(a, what));
        } else if (kind < 66) {
            int what = number(3);
            same("cell(" + x + ", " + y + ", " + what + ")", () -> square.cell(x, y, what), () -> model.cell(x, y, what));
        } else if (kind < 72) {
            int what = number(4);
            same("cord(" + x + ", " + what + ")", () -> square.cord(x, what), () -> model.cord(x, what));
        } else if (kind < 78) {
            int what = number(4);
            same("told(" + s + ", " + what + ")", () -> square.told(s, what), () -> model.told(s, what));
        } else if (kind < 82) {
            same("share(" + a + ", " + b + ")", () -> square.share(a, b), () -> model.share(a, b));
        } else if (kind < 87) {
            int what = number(11);
            same("count(" + what + ")", () -> square.count(what), () -> model.count(what));
        } else if (kind < 91) {
            same("would(" + s + ", " + drops + ")", () -> square.would(s, drops), () -> model.would(s, drops));
        } else if (kind < 95) {
            int what = number(3);
            same("best(" + w + ", " + h + ", " + what + ")", () -> square.best(w, h, what), () -> model.best(w, h, what));
        } else if (kind < 97) {
            same("advise()", () -> square.advise(), () -> model.advise());
        } else if (kind < 98) {
            same("mean()", () -> square.mean(), () -> model.mean());
        } else {
            same("digest()", () -> square.digest(), () -> model.digest());
        }
    }

    private void same(String call, Check.Call got, Check.Call due) {
        Check.isText("run " + run + ": " + call, Check.outcome(got), Check.outcome(due));
    }

    /** Mostly a number below many, now and then one just beyond, or an odd one. */
    private int number(int many) {
        int kind = below(60);
        if (kind == 0) {
            return ODD[below(ODD.length)];
        }
        return kind == 1 ? many : below(many);
    }

    private int below(int many) {
        state = state * 6364136223846793005L + 1442695040888963407L;
        return (int) ((state >>> 33) % many);
    }
}
