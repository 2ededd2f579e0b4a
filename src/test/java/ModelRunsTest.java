import java.util.Random;

/** Runs of drawn calls on fresh objects: every answer is held against PlainModel's. */
public final class ModelRunsTest {
    private static final int RUNS = 1500;
    // An object is used for 512 calls at most, and a turn makes fewer than 30.
    private static final int CALLS = 512 - 30;
    private static final String ACTS = "....::!*";

    private final Random draw;
    private final int run;
    private final SilenceCount house = new SilenceCount();
    private final PlainModel model = new PlainModel();
    // How far counts go in this run: small ones meet, are alike and are at 0 more often.
    private final int reach;
    private int calls = 0;

    private ModelRunsTest(int run) {
        this.run = run;
        draw = new Random(run);
        reach = new int[] {3, 30, 200, 2000, 1000000}[run % 5];
    }

    public static void main(String[] args) {
        for (int run = 0; run < RUNS; run++) {
            new ModelRunsTest(run).go();
        }
        Due.close();
    }

    private void go() {
        for (int i = 0; i < 1 + run % 8; i++) {
            settle();
        }
        while (calls < CALLS) {
            one();
        }
    }

    private void same(String call, long got, long want) {
        calls++;
        Due.is("run " + run + ": " + call, got, want);
    }

    /** Mostly within its limits, at times at their edges or outside. */
    private int drawn(int least, int greatest) {
        int kind = draw.nextInt(40);
        if (kind == 0) {
            return least - 1;
        }
        if (kind == 1) {
            return greatest + 1;
        }
        if (kind == 2) {
            return draw.nextInt();
        }
        if (kind < 6) {
            return draw.nextBoolean() ? least : greatest;
        }
        return least + draw.nextInt(greatest - least + 1);
    }

    private void settle() {
        int monk = drawn(0, 7);
        int count = drawn(0, reach);
        int pace = drawn(1, 9);
        same("monk " + monk + " " + count + " " + pace, house.monk(monk, count, pace), model.monk(monk, count, pace));
    }

    private void one() {
        int kind = draw.nextInt(100);
        if (kind < 22) {
            write();
        } else if (kind < 32) {
            changeHouse();
        } else if (kind < 55) {
            askHours();
        } else if (kind < 75) {
            askNumbers();
        } else if (kind < 92) {
            askWorlds();
        } else {
            keepOrTell();
        }
    }

    private void write() {
        String signs = "";
        for (int i = draw.nextInt(5); i >= 0; i--) {
            signs += drawnAct();
        }
        for (int sign : signs.toCharArray()) {
            same("say " + (char) sign, house.say(sign), model.say(sign));
        }
        if (draw.nextInt(4) == 0) {
            int sign = drawn(33, 126);
            same("say " + sign, house.say(sign), model.say(sign));
        }
    }

    private String drawnAct() {
        if (draw.nextInt(3) == 0) {
            return "" + ACTS.charAt(draw.nextInt(ACTS.length()));
        }
        // Mostly of those who are there, so that many hours can be.
        calls++;
        int there = house.told(1);
        int monk = draw.nextInt(8);
        int other = draw.nextInt(8);
        for (int i = 0; i < 8 && (there >> monk & 1) == 0; i++) {
            monk = (monk + 1) % 8;
        }
        for (int i = 0; i < 8 && ((there >> other & 1) == 0 || other == monk) && draw.nextInt(9) != 0; i++) {
            other = (other + 1) % 8;
        }
        String seconds = "wkkee" + (char) ('A' + other);
        return "" + (char) ('A' + monk) + seconds.charAt(draw.nextInt(seconds.length()));
    }

    private void changeHouse() {
        int kind = draw.nextInt(6);
        if (kind < 2) {
            settle();
        } else if (kind == 2) {
            int monk = drawn(0, 7);
            same("leave " + monk, house.leave(monk), model.leave(monk));
        } else {
            int which = drawn(0, 1);
            int v = which == 0 ? drawn(1, draw.nextInt(3) == 0 ? 1000000 : reach) : drawn(0, 99);
            same("set " + which + " " + v, house.set(which, v), model.set(which, v));
        }
    }

    private void askHours() {
        int monk = drawn(0, 7);
        int what = drawn(0, 1);
        same("fault", house.fault(), model.fault());
        switch (draw.nextInt(8)) {
            case 0 -> same("judge " + what, house.judge(what), model.judge(what));
            case 1 -> same("behind " + monk + " " + what, house.behind(monk, what), model.behind(monk, what));
            case 2 -> same("breaths " + what, house.breaths(what), model.breaths(what));
            case 3 -> same("noticed", house.noticed(), model.noticed());
            case 4 -> same("wipe", house.wipe(), model.wipe());
            case 5 -> {
                same("done", house.done(), model.done());
                same("wipe", house.wipe(), model.wipe());
            }
            case 6 -> same("state " + monk + " " + what, house.state(monk, what), model.state(monk, what));
            default -> askWhoIsWhere();
        }
    }

    private void askWhoIsWhere() {
        int monk = drawn(-1, 7);
        int other = drawn(0, 7);
        int i = drawn(-1, 4);
        same("ahead", house.ahead(), model.ahead());
        same("differ", house.differ(), model.differ());
        same("alike " + i, house.alike(i), model.alike(i));
        same("ends " + monk, house.ends(monk), model.ends(monk));
        same("meet " + monk + " " + other, house.meet(monk, other), model.meet(monk, other));
    }

    private void askNumbers() {
        int law = drawn(0, 4);
        int what = drawn(0, 1);
        switch (draw.nextInt(6)) {
            case 0 -> {
                int from = drawn(1, 100000);
                int to = draw.nextInt(4) == 0 ? drawn(1, 100000) : from + draw.nextInt(300);
                same("bows " + law + " " + from + " " + to, house.bows(law, from, to), model.bows(law, from, to));
            }
            case 1 -> {
                int v = drawn(0, draw.nextInt(3) == 0 ? 1000000 : 1000);
                same("next " + law + " " + v, house.next(law, v), model.next(law, v));
            }
            case 2 -> same("elbows " + what, house.elbows(what), model.elbows(what));
            case 3, 4 -> {
                int k = drawn(1, draw.nextBoolean() ? 8 : 3);
                int h = drawn(1, 24);
                int r = drawn(1, 24);
                String call = "relays " + k + " " + h + " " + r + " " + what;
                same(call, house.relays(k, h, r, what), model.relays(k, h, r, what));
            }
            default -> {
                int n = drawn(0, 200);
                same("beads " + n + " " + what, house.beads(n, what), model.beads(n, what));
            }
        }
    }

    private void askWorlds() {
        int law = drawn(0, 4);
        switch (draw.nextInt(7)) {
            case 0 -> {
                int monk = drawn(0, 7);
                int breaths = drawn(0, draw.nextBoolean() ? 99 : 5);
                boolean bowed = draw.nextBoolean();
                String call = "seen " + monk + " " + breaths + " " + bowed;
                same(call, house.seen(monk, breaths, bowed), model.seen(monk, breaths, bowed));
            }
            case 1 -> {
                if (draw.nextInt(3) == 0) {
                    same("forget", house.forget(), model.forget());
                }
            }
            case 2, 3 -> {
                int what = drawn(0, 2);
                same("skips " + law + " " + what, house.skips(law, what), model.skips(law, what));
            }
            case 4 -> {
                int b = drawn(0, draw.nextBoolean() ? 99 : 5);
                int what = drawn(0, 1);
                same("ask " + law + " " + b + " " + what, house.ask(law, b, what), model.ask(law, b, what));
            }
            case 5 -> {
                int m = drawn(0, 10);
                int t = drawn(0, 10);
                int what = drawn(0, 1);
                int part = drawn(0, 1);
                String call = "bees " + m + " " + t + " " + what + " " + part;
                same(call, house.bees(m, t, what, part), model.bees(m, t, what, part));
            }
            default -> {
                int seed = drawn(0, 9999);
                int m = drawn(1, 99);
                int what = drawn(0, 2);
                same("year " + seed + " " + m + " " + what, house.year(seed, m, what), model.year(seed, m, what));
            }
        }
    }

    private void keepOrTell() {
        int n = drawn(0, 1);
        switch (draw.nextInt(3)) {
            case 0 -> same("image " + n, house.image(n), model.image(n));
            case 1 -> same("restore " + n, house.restore(n), model.restore(n));
            default -> {
                int what = drawn(0, 17);
                same("told " + what, house.told(what), model.told(what));
            }
        }
    }
}
