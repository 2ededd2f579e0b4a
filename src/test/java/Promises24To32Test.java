import java.math.BigInteger;
import java.util.Arrays;

/** Sights, skips, bees, years, images, what is told. */
public final class Promises24To32Test {
    private static final int NONE = -6, UNKNOWN = -1, OUTSIDE = -2, STATE = -3, FULL = -4;

    public static void main(String[] args) {
        promise24();
        promise25();
        promise26();
        promise26Refused();
        promise27();
        promise28();
        promise28AllOutcomes();
        promise29();
        promise29Edges();
        promise30();
        promise31();
        promise32();
        Due.close();
    }

    private static void promise24() {
        SilenceCount house = Told.three();
        Due.is("seen", house.seen(0, 0, true), 1);
        Due.is("seen, far", house.seen(2, 99, false), 2);
        for (int monk : new int[] {3, 8, -1, 32, Integer.MIN_VALUE, Integer.MAX_VALUE}) {
            Due.is("seen of " + monk, house.seen(monk, 100, true), UNKNOWN);
        }
        Due.is("breaths -1", house.seen(0, -1, true), OUTSIDE);
        Due.is("breaths 100", house.seen(0, 100, true), OUTSIDE);
        Told.pass(house, "AB");
        Due.is("who sleeps is seen, too", house.seen(0, 0, false), 3);
        for (int i = 4; i <= 8; i++) {
            Due.is("seen", house.seen(1, i, false), i);
        }
        Due.is("a ninth", house.seen(1, 0, false), FULL);
        Due.is("OUTSIDE goes first", house.seen(1, 100, false), OUTSIDE);
        Due.is("UNKNOWN goes first", house.seen(7, 0, false), UNKNOWN);
        Due.is("sights", house.told(5), 8);
    }

    private static void promise25() {
        SilenceCount house = Told.three();
        Due.is("forget nothing", house.forget(), 0);
        house.seen(0, 1, true);
        house.seen(1, 1, true);
        Due.is("forget", house.forget(), 2);
        Due.is("sights", house.told(5), 0);
        Due.is("all worlds again", house.skips(0, 0), 28);
        for (int i = 0; i < 8; i++) {
            house.seen(0, 0, true);
        }
        Due.is("forget all", house.forget(), 8);
        Due.is("room again", house.seen(0, 0, true), 1);
    }

    private static void promise26() {
        SilenceCount house = new SilenceCount();
        skipsAre(house, 0, 1, 0, 1);
        house.monk(0, 20, 1);
        house.monk(3, 4, 2);
        skipsAre(house, 0, 19, 9, 1);
        house.seen(0, 1, true);
        // A bows at 19, 17, 13, 11: by nobody's skip, D's, or by A's of 2, 6, 8.
        skipsAre(house, 0, 13, 9, 1);
        house.seen(3, 0, true);
        // D bows at 3 or 2: by his skip of 1 or 2 alone; A does so without one.
        skipsAre(house, 0, 2, 8, 0);
        house.seen(3, 2, true);
        // Behind two breaths D is at 0, where nobody bows.
        skipsAre(house, 0, 0, 0, 0);
        house.forget();
        house.seen(3, 1, false);
        // D is at 2, or, having skipped, at 1 or 0.
        skipsAre(house, 0, 9, 8, 0);
        skipsAre(house, 4, 8, 8, 0);
        house.forget();
        house.seen(0, 0, true);
        house.seen(0, 4, true);
        // 20 - v and 16 - v: of squares none, of powers none, of those alike from behind 11 and 7.
        skipsAre(house, 1, 0, 0, 0);
        skipsAre(house, 2, 1, 1, 0);
        skipsAre(house, 4, 0, 0, 0);
        house.forget();
        house.seen(0, 0, true);
        house.seen(3, 0, true);
        house.leave(3);
        skipsAre(house, 3, 0, 0, 0);
        house.monk(3, 4, 2);
        // By nobody's skip, A's to 18 or 12, D's to 3, 2 or 1.
        skipsAre(house, 3, 6, 9, 1);
        Told.pass(house, "DA");
        skipsAre(house, 3, 0, 0, 0);
        house.forget();
        house.seen(3, 0, false);
        skipsAre(house, 3, 10, 1, 1);
        house.leave(0);
        skipsAre(house, 3, 1, 0, 1);
        house.seen(3, 0, true);
        skipsAre(house, 3, 0, 0, 0);
    }

    private static void skipsAre(SilenceCount house, int law, int many, int monks, int nobody) {
        Due.is("skips by law " + law, house.skips(law, 0), many);
        Due.is("skips by law " + law + ", monks", house.skips(law, 1), monks);
        Due.is("skips by law " + law + ", nobody", house.skips(law, 2), nobody);
    }

    private static void promise26Refused() {
        SilenceCount house = Told.three();
        Due.is("law 5", house.skips(5, 0), OUTSIDE);
        Due.is("law -1", house.skips(-1, 0), OUTSIDE);
        Due.is("what 3", house.skips(0, 3), OUTSIDE);
        Due.is("what -1", house.skips(0, -1), OUTSIDE);
    }

    private static void promise27() {
        SilenceCount house = new SilenceCount();
        askIs(house, 0, 0, NONE, NONE);
        house.monk(1, 20, 1);
        // B bows at 19, 17, 13, 11: in four worlds of ten.
        askIs(house, 0, 0, 1, 6);
        // Behind ten breaths he is at 10 to 1 and bows at 7, 5, 3, 2.
        askIs(house, 0, 10, 1, 6);
        house.monk(4, 10, 1);
        // B tells four worlds from fifteen; E bows at 7, 5, 3, 2, and tells as many: the least.
        askIs(house, 0, 0, 1, 15);
        house.monk(1, 23, 1);
        // B bows now, and so in ten worlds and by skips of 4 and 6 (19, 17), not in seven.
        askIs(house, 0, 0, 1, 12);
        house.seen(1, 0, false);
        // Only B's skips to 22, 21, 20, 18, 16, 15, 14 are left.
        askIs(house, 0, 0, 1, 7);
        // Behind a breath three of them are at 19, 17, 13.
        askIs(house, 0, 1, 1, 4);
        askIs(house, 0, 99, 1, 7);
        house.seen(4, 0, true);
        askIs(house, 0, 0, NONE, NONE);
        house.forget();
        Told.pass(house, "BE");
        // E is at 16 then, and bows there and at 8.
        askIs(house, 4, 0, 4, 8);
        house.leave(4);
        askIs(house, 0, 0, NONE, NONE);
        Due.is("law 5", house.ask(5, 0, 0), OUTSIDE);
        Due.is("law -1", house.ask(-1, 0, 0), OUTSIDE);
        Due.is("b 100", house.ask(0, 100, 0), OUTSIDE);
        Due.is("b -1", house.ask(0, -1, 0), OUTSIDE);
        Due.is("what 2", house.ask(0, 0, 2), OUTSIDE);
        Due.is("what -1", house.ask(0, 0, -1), OUTSIDE);
    }

    private static void askIs(SilenceCount house, int law, int b, int monk, int many) {
        Due.is("ask by law " + law + " behind " + b, house.ask(law, b, 0), monk);
        Due.is("ask by law " + law + " behind " + b + ", how many", house.ask(law, b, 1), many);
    }

    private static void promise28() {
        SilenceCount house = new SilenceCount();
        long lost = SilenceCount.LOST;
        Due.is("nobody is awake", house.bees(1, 1, 0, 0), lost + STATE);
        int[][] wrong = {{-1, 0, 0, 0}, {11, 0, 0, 0}, {0, -1, 0, 0}, {0, 11, 0, 0}, {0, 0, -1, 0}, {0, 0, 2, 0},
            {0, 0, 0, -1}, {0, 0, 0, 2}, {Integer.MAX_VALUE, 0, 0, 0}};
        for (int[] w : wrong) {
            String call = "bees " + Arrays.toString(w);
            Due.is(call + ", nobody awake", house.bees(w[0], w[1], w[2], w[3]), lost + OUTSIDE);
        }
        house.monk(2, 1000000, 1);
        for (int[] w : wrong) {
            Due.is("bees " + Arrays.toString(w), house.bees(w[0], w[1], w[2], w[3]), lost + OUTSIDE);
        }
        beesAre(house, 0, 5, 1000000, 1, 0, 1);
        beesAre(house, 10, 0, 999990, 1, 0, 1);
        beesAre(house, 10, 10, 1000000, 1, 0, 1);
        house.monk(0, 3, 2);
        house.set(0, 1000000);
        // Half at 1, half at HOUSE.
        beesAre(house, 1, 5, 1000001, 2, 0, 1);
        Told.pass(house, "AC");
        beesAre(house, 1, 0, 500000, 1, 0, 1);
        house.leave(2);
        Due.is("only a sleeper", house.bees(1, 1, 0, 0), lost + STATE);
    }

    private static void beesAre(SilenceCount house, int m, int t, long mean, long meanBy, long at0, long at0By) {
        Due.is("bees " + m + " " + t + ", mean", house.bees(m, t, 0, 0), mean);
        Due.is("bees " + m + " " + t + ", mean by", house.bees(m, t, 0, 1), meanBy);
        Due.is("bees " + m + " " + t + ", at 0", house.bees(m, t, 1, 0), at0);
        Due.is("bees " + m + " " + t + ", at 0 by", house.bees(m, t, 1, 1), at0By);
    }

    private static void promise28AllOutcomes() {
        int[][] cases = {{1, 1, 1}, {1, 0, 9}, {5, 5, 2}, {7, 3, 9}, {40, 33, 4}, {1000000, 77, 9},
            {1000000, 1000000, 1}};
        for (int[] c : cases) {
            for (int m = 0; m <= 10; m++) {
                SilenceCount house = new SilenceCount();
                house.set(0, c[0]);
                house.monk(6, c[1], c[2]);
                for (int t = 0; t <= 10; t++) {
                    BigInteger mean = BigInteger.ZERO;
                    BigInteger at0 = BigInteger.ZERO;
                    for (int outcome = 0; outcome < 1 << m; outcome++) {
                        int left = c[1];
                        BigInteger weight = BigInteger.ONE;
                        for (int breath = 0; breath < m; breath++) {
                            boolean bee = (outcome >> breath & 1) == 1;
                            left = bee ? c[0] : Math.max(0, left - c[2]);
                            weight = weight.multiply(BigInteger.valueOf(bee ? t : 10 - t));
                        }
                        mean = mean.add(weight.multiply(BigInteger.valueOf(left)));
                        at0 = left == 0 ? at0.add(weight) : at0;
                    }
                    BigInteger all = BigInteger.TEN.pow(m);
                    BigInteger byMean = mean.gcd(all);
                    BigInteger by0 = at0.gcd(all);
                    beesAre(house, m, t, mean.divide(byMean).longValueExact(), all.divide(byMean).longValueExact(),
                        at0.divide(by0).longValueExact(), all.divide(by0).longValueExact());
                }
            }
        }
    }

    private static void promise29() {
        SilenceCount house = Told.three();
        house.monk(3, 2, 2);
        String before = Told.all(house);
        // 74, 5624, 28652, ...: a cough of B's (74 left over by 8 is 2, 9 left over by 8 is 1).
        yearIs(house, 0, 1, 295, 4, 0);
        // 5624 is a bell.
        yearIs(house, 0, 2, 299, 4, 0);
        // 28652 leaves 4: 3581 leaves 5, F is not there.
        yearIs(house, 0, 3, 299, 4, 0);
        Due.isTrue("nothing is done in fact", before.equals(Told.all(house)));
        yearIs(new SilenceCount(), 9999, 99, 0, 0, 0);
        Due.is("seed -1", house.year(-1, 1, 0), OUTSIDE);
        Due.is("seed 10000", house.year(10000, 1, 0), OUTSIDE);
        Due.is("m 0", house.year(0, 0, 0), OUTSIDE);
        Due.is("m 100", house.year(0, 100, 0), OUTSIDE);
        Due.is("what 3", house.year(0, 1, 3), OUTSIDE);
        Due.is("what -1", house.year(0, 1, -1), OUTSIDE);
    }

    private static void yearIs(SilenceCount house, int seed, int m, int counts, int awake, int acts) {
        String call = "year " + seed + " " + m;
        Due.is(call + ", counts", house.year(seed, m, 0), counts);
        Due.is(call + ", awake", house.year(seed, m, 1), awake);
        Due.is(call + ", acts", house.year(seed, m, 2), acts);
    }

    /** One act each, found by its draw, with somebody at 0 by it or not. */
    private static void promise29Edges() {
        SilenceCount house = new SilenceCount();
        for (int monk = 0; monk < 8; monk++) {
            house.monk(monk, 7, 1);
        }
        int breaths = seedWhose(6, -1, -1);
        yearIs(house, breaths, 1, 0, 8, 1);
        yearIs(house, seedWhose(7, -1, -1), 1, 0, 8, 1);
        yearIs(house, seedWhose(0, -1, -1), 1, 64, 8, 0);
        yearIs(house, seedWhose(1, -1, -1), 1, 7 * 7 + 1000000, 8, 0);
        yearIs(house, seedWhose(2, 5, -1), 1, 59, 8, 0);
        yearIs(house, seedWhose(4, 5, 5), 1, 56, 8, 0);
        yearIs(house, seedWhose(4, 5, 2), 1, 56, 7, 0);
        yearIs(house, seedWhose(5, 3, -1), 1, 56, 8, 0);
        house.monk(2, 0, 1);
        yearIs(house, seedWhose(4, 5, 2), 1, 6 * 7 + 7 + 3, 7, 0);
        yearIs(house, seedWhose(3, 2, -1), 1, 56, 8, 0);
        house.monk(5, 1, 1);
        // The middle of 0 and 1 is 0: who goes to sleep was at 0, the other one was not.
        yearIs(house, seedWhose(4, 2, 5), 1, 6 * 7, 7, 1);
        yearIs(house, seedWhose(4, 5, 2), 1, 6 * 7 + 1, 7, 0);
        yearIs(house, breaths, 1, 0, 8, 1);
        house.monk(3, 0, 1);
        house.monk(4, 0, 1);
        house.monk(6, 0, 1);
        house.monk(7, 0, 1);
        yearIs(house, seedWhose(3, 0, -1), 1, 8, 8, 1);
        Told.pass(house, "AB");
        yearIs(house, seedWhose(5, 0, -1), 1, 15, 8, 0);
        yearIs(house, seedWhose(5, 1, -1), 1, 15, 7, 0);
    }

    private static int seedWhose(int kind, int monk, int other) {
        for (int seed = 0; seed <= 9999; seed++) {
            int x = (75 * seed + 74) % 65537;
            boolean fits = x % 8 == kind && (monk < 0 || x / 8 % 8 == monk) && (other < 0 || x / 64 % 8 == other);
            if (fits) {
                return seed;
            }
        }
        throw new IllegalStateException();
    }

    private static void promise30() {
        SilenceCount house = Told.three();
        Due.is("image", house.image(0), 1);
        Due.is("image again", house.image(0), 1);
        Due.is("image 1", house.image(1), 1);
        Due.is("image -1", house.image(-1), OUTSIDE);
        Due.is("image 2", house.image(2), OUTSIDE);
        house.monk(0, 7, 7);
        house.image(0);
        house.leave(0);
        house.restore(0);
        Due.is("the later one counts", house.state(0, 0), 7);
        house.restore(1);
        Due.is("the other one is apart", house.state(0, 0), 100);
    }

    private static void promise31() {
        SilenceCount house = Told.three();
        Due.is("not kept", house.restore(1), STATE);
        Due.is("restore -1", house.restore(-1), OUTSIDE);
        Due.is("restore 2", house.restore(2), OUTSIDE);
        Told.pass(house, "AB");
        house.set(0, 500);
        house.set(1, 42);
        house.seen(1, 4, true);
        house.seen(0, 0, false);
        house.image(1);
        String kept = Told.all(house);
        Due.is("the other one is not kept", house.restore(0), STATE);
        house.forget();
        house.seen(2, 9, false);
        house.monk(5, 400, 9);
        house.leave(0);
        house.monk(1, 3, 3);
        house.set(0, 1000000);
        house.set(1, 1);
        Due.is("restore", house.restore(1), 1);
        Due.isTrue("all is as it was", kept.equals(Told.all(house)));
        Due.is("sights", house.told(5), 2);
        house.seen(1, 5, true);
        Told.say(house, "..Aw");
        house.leave(2);
        Due.is("restore once more", house.restore(1), 1);
        Due.is("sights once more", house.told(5), 2);
        Due.is("the pad stays", house.told(0), 4);
        Due.is("the pad can be", house.behind(0, 1), 1);
        Due.is("C is there again", house.state(2, 0), 100);
        house.image(0);
        Due.is("an image of an image", house.restore(0), 1);
        Due.is("the pad is in none", house.told(0), 4);
        Due.is("images are apart from the house", house.done(), 3);
        house.restore(1);
        Due.is("A sleeps again", house.state(0, 1), 0);
    }

    private static void promise32() {
        SilenceCount house = Told.three();
        house.monk(7, 1, 9);
        Told.pass(house, "HA");
        Told.say(house, "?!");
        house.set(0, 777);
        house.set(1, 77);
        house.seen(7, 7, false);
        Due.is("signs", house.told(0), 2);
        Due.is("monks", house.told(1), 0x87);
        Due.is("awake", house.told(2), 7);
        Due.is("HOUSE", house.told(3), 777);
        Due.is("SHARP", house.told(4), 77);
        Due.is("SIGHTS", house.told(5), 1);
        Due.is("pace of A", house.told(10), 3);
        Due.is("pace of B", house.told(11), 2);
        Due.is("pace of a sleeper", house.told(17), 9);
        for (int what : new int[] {-1, 6, 7, 8, 9, 13, 16, 18, 19, 42, Integer.MIN_VALUE, Integer.MIN_VALUE + 9,
            Integer.MAX_VALUE}) {
            Due.is("told " + what, house.told(what), OUTSIDE);
        }
        house.leave(0);
        Due.is("pace of who left", house.told(10), OUTSIDE);
    }
}
