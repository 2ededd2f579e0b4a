/** Houses made in few words. */
final class Houses {
    /** No monk: below, above, and such as a shift of bits would wrap around to one. */
    static final int[] NO_MONKS = {-1, 8, 9, 31, 32, 39, 64, -8, -32, Integer.MIN_VALUE, Integer.MAX_VALUE};

    private Houses() {
    }

    /** Monks from A on, each by his COUNT and his PACE. */
    static SilenceCount of(int... countsAndPaces) {
        SilenceCount house = new SilenceCount();
        settle(house, countsAndPaces);
        return house;
    }

    /** All eight, at one number, by 1. */
    static SilenceCount eightAt(int count) {
        SilenceCount house = new SilenceCount();
        for (int monk = 0; monk < 8; monk++) {
            Due.is("monk", house.monk(monk, count, 1), monk + 1);
        }
        return house;
    }

    static SilenceCount saying(String signs, int... countsAndPaces) {
        SilenceCount house = of(countsAndPaces);
        Told.say(house, signs);
        return house;
    }

    static SilenceCount behind(String signs, int... countsAndPaces) {
        SilenceCount house = saying(signs, countsAndPaces);
        Due.isTrue("done of " + signs, house.done() >= 0);
        return house;
    }

    /** The same, in a smaller HOUSE. */
    static SilenceCount behindIn(int start, String signs, int... countsAndPaces) {
        SilenceCount house = new SilenceCount();
        house.set(0, start);
        settle(house, countsAndPaces);
        Told.pass(house, signs);
        return house;
    }

    private static void settle(SilenceCount house, int... countsAndPaces) {
        for (int i = 0; i + 1 < countsAndPaces.length; i += 2) {
            Due.is("monk", house.monk(i / 2, countsAndPaces[i], countsAndPaces[i + 1]), i / 2 + 1);
        }
    }

    /** A at 20 by 2 and B at 0 by 1 are there, both asleep. */
    static SilenceCount asleep() {
        SilenceCount house = behind("ACBC", 20, 2, 0, 1, 50, 1);
        house.leave(2);
        return house;
    }

    /** Something of everything, so that it would show if a refused call changed it; B sleeps, D to G are not there. */
    static SilenceCount rich() {
        SilenceCount house = of(100, 3, 90, 2, 100, 3, 7, 1);
        house.seen(3, 2, true);
        house.image(0);
        house.leave(3);
        house.monk(7, 40, 5);
        Told.pass(house, "BH");
        house.set(0, 500);
        house.set(1, 7);
        house.seen(0, 1, true);
        house.seen(7, 0, false);
        Told.say(house, "..Ak!");
        return house;
    }

    /** The same with a FAULT on the PAD. */
    static SilenceCount richWithFault() {
        SilenceCount house = rich();
        Told.write(house, "!H");
        return house;
    }

    /** The same with an ACT that can not be. */
    static SilenceCount richThatCanNotBe() {
        SilenceCount house = rich();
        Told.write(house, "!AkBk");
        return house;
    }

    /** The two of asleep, with something on the PAD, a SIGHT and an IMAGE. */
    static SilenceCount asleepAndRich() {
        SilenceCount house = asleep();
        house.image(1);
        house.seen(0, 3, false);
        Told.say(house, "Aw.");
        return house;
    }

    /** A at 1000 by 1, B at 1000 by 2, C asleep, and a PAD of 60 signs. */
    static SilenceCount fullPad() {
        SilenceCount house = behind("CA", 1000, 1, 1000, 2, 1000, 3);
        house.seen(1, 1, false);
        Told.say(house, ".!".repeat(28) + "AkBA");
        return house;
    }

    /**
     * A at 64, B at 66, both by 1, H asleep, and 8 SIGHTS, which by LAW 4 (powers of 2) leave one world, of nobody's
     * skip.
     */
    static SilenceCount fullSights() {
        SilenceCount house = of(64, 1, 66, 1);
        house.monk(7, 64, 1);
        Told.pass(house, "HA");
        Told.say(house, "..");
        int[] breaths = {0, 2, 1, 0, 32, 34, 2, 3};
        for (int i = 0; i < 8; i++) {
            boolean bowed = i < 2 || i == 4 || i == 5;
            Due.is("seen", house.seen(i % 2, breaths[i], bowed), i + 1);
        }
        return house;
    }
}
